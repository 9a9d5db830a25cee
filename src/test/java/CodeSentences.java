/** Promises 15 to 19, sentence by sentence; the faults of a code are in DecodingSentences. */
final class CodeSentences {
    private static final int LOW = States.LOW;
    private static final int HIGH = States.HIGH;

    private CodeSentences() {
    }

    static void run() {
        encode();
        write();
        clearCode();
        code();
        decode();
    }

    private static void encode() {
        Sentences.from("Promise 15");
        Sentences.test("Encodes the delta by the plan, in place of the former code.", () -> {
            InPlaceDelta tool = States.fullCode();
            Due.is("in place of 200 bytes", tool.encode(), 29);
            Due.is("nothing of them is left", tool.code(29), InPlaceDelta.NONE);
            int sum = 73 + 17 + 17 + 5 + 1 + 12 + 6 + 5 + 1 + 0 + 12 + 5 + 2 + 0 + 5 + 'f' + 'g' + 'h' + 'i' + 'j'
                    + 2 + 5 + 1 + '-' + 2 + 11 + 1 + '-';
            String code = "73 17 17 5 1 12 6 5 1 0 12 5 2 0 5 102 103 104 105 106 2 5 1 45 2 11 1 45 " + sum % 251;
            Due.is("the code", Tools.codeOf(tool), code);
            tool.clearCode();
            tool.encode();
            Due.is("in place of an empty one", Tools.codeOf(tool), code);
            Due.is("the plan and the work stay", tool.step(), 4);
            Due.is("the delta stays", tool.command(0, 0), 1);
        });
        Sentences.test("Undoable.", () -> {
            Twin.isUndoable("encode", States::fullCode, t -> t.encode());
            Twin.isUndoable("the same encode", States::underWay, t -> t.encode());
        });
        Sentences.test("Returns the length of the code.", () -> {
            InPlaceDelta empty = new InPlaceDelta();
            empty.plan(0);
            Due.is("5 without commands", empty.encode(), 5);
            InPlaceDelta one = Tools.ofCopies(64, 0, 0, 64);
            one.plan(0);
            Due.is("9 with one COPY", one.encode(), 9);
            InPlaceDelta add = Tools.ofMade("", Tools.letters(64));
            add.plan(0);
            Due.is("72 with an ADD of 64", add.encode(), 72);
        });
        Sentences.test("Throws `IllegalStateException` if there is no plan, or the code would have more than 200 bytes",
                () -> {
            Twin.refusesState("before plan", States::circle, t -> t.encode());
            Twin.refusesState("dropped", States::oldTooLong, t -> t.encode());
            Twin.refusesState("a new object", InPlaceDelta::new, t -> t.encode());
            // The longest code that a delta can have: 30 commands of 3 bytes each and the 64 bytes of the target.
            InPlaceDelta most = States.thirtyAdds();
            most.plan(0);
            Due.is("159 bytes are not more than 200", most.encode(), 159);
            Due.is("its check byte is the last", most.code(158) >= 0 && most.code(159) == InPlaceDelta.NONE);
            Due.is("it has no fault", most.decode(), 30);
        });
    }

    private static void write() {
        Sentences.from("Promise 16");
        Sentences.test("Appends a byte to the code.", () -> {
            InPlaceDelta tool = States.underWay();
            tool.write(201);
            Due.is("behind the others", tool.code(29), 201);
            Due.is("those stay", tool.code(0), 73);
            Due.is("the plan and the work stay", tool.step(), 3);
            Due.is("the versions stay", tool.byteOf(0, 16), (int) 'o');
            Due.is("the delta stays", tool.commands(), 5);
        });
        Sentences.test("Undoable.", () -> {
            Twin.isUndoable("write", States::underWay, t -> t.write(0));
            Twin.isUndoable("the first byte", States::circle, t -> t.write(255));
        });
        Sentences.test("value: the byte, 0 to 255", () -> {
            InPlaceDelta tool = new InPlaceDelta();
            for (int value : new int[] {0, 1, 127, 128, 254, 255}) {
                int length = tool.write(value);
                Due.is("the byte " + value, tool.code(length - 1), value);
            }
        });
        Sentences.test("Returns the new length of the code.", () -> {
            InPlaceDelta tool = new InPlaceDelta();
            for (int length = 1; length <= 200; length++) {
                Due.is("the length", tool.write(0), length);
            }
            tool.clearCode();
            Due.is("1 again", tool.write(0), 1);
        });
        Sentences.test("Throws `IllegalArgumentException` if value is out of range", () -> {
            for (int value : new int[] {-1, 256, LOW, HIGH}) {
                Twin.refusesArgument("value " + value, States::underWay, t -> t.write(value));
                Twin.refusesArgument("value " + value + ", full", States::fullCode, t -> t.write(value));
            }
        });
        Sentences.test("Throws `IllegalStateException` if the code has 200 bytes", () -> {
            Twin.refusesState("200", States::fullCode, t -> t.write(0));
            InPlaceDelta tool = States.fullCode();
            tool.undo();
            Due.is("199 behind undo", tool.write(1), 200);
            Due.throwsState("then it is full again", () -> tool.write(1));
            tool.clearCode();
            Due.is("not behind clearCode", tool.write(1), 1);
            InPlaceDelta other = States.fullCode();
            other.encode();
            Due.is("nor behind encode", other.write(1), 30);
        });
    }

    private static void clearCode() {
        Sentences.from("Promise 17");
        Sentences.test("Empties the code.", () -> {
            InPlaceDelta tool = States.fullCode();
            tool.clearCode();
            Due.is("its length", tool.code(-1), 0);
            Due.is("its first byte", tool.code(0), InPlaceDelta.NONE);
            tool.write(7);
            Due.is("nothing comes back with a write", tool.code(1), InPlaceDelta.NONE);
            Due.is("the plan and the work stay", tool.step(), 4);
            Due.is("the delta stays", tool.commands(), 5);
        });
        Sentences.test("Undoable.", () -> {
            Twin.isUndoable("of 200 bytes", States::fullCode, t -> t.clearCode());
            Twin.isUndoable("of none", States::circle, t -> t.clearCode());
        });
        Sentences.test("Returns the length that it had.", () -> {
            InPlaceDelta tool = States.fullCode();
            Due.is("200", tool.clearCode(), 200);
            Due.is("0", tool.clearCode(), 0);
            tool.write(0);
            Due.is("1", tool.clearCode(), 1);
        });
    }

    private static void code() {
        Sentences.from("Promise 18");
        Sentences.test("Returns a byte of the code.", () -> {
            Twin.changesNothing("the first", States::underWay, t -> t.code(0), 73);
            Twin.changesNothing("one in the middle", States::underWay, t -> t.code(15), (int) 'f');
        });
        Sentences.test("index: index of the byte, from 0, or -1 for the length of the code", () -> {
            InPlaceDelta tool = States.fullCode();
            Due.is("-1", tool.code(-1), 200);
            Due.is("0", tool.code(0), 0);
            Due.is("199", tool.code(199), 199);
            Due.is("-1 of an empty one", new InPlaceDelta().code(-1), 0);
        });
        Sentences.test("Returns the byte, or the length if index is -1; NONE if the code has no such byte.", () -> {
            InPlaceDelta tool = new InPlaceDelta();
            Due.is("no byte 0", tool.code(0), InPlaceDelta.NONE);
            Tools.writeAll(tool, 255, 0);
            Due.is("255", tool.code(0), 255);
            Due.is("0", tool.code(1), 0);
            Due.is("no byte 2", tool.code(2), InPlaceDelta.NONE);
            Due.is("no byte 199", tool.code(199), InPlaceDelta.NONE);
            Due.is("no byte 200", tool.code(200), InPlaceDelta.NONE);
            Due.is("no byte far away", tool.code(HIGH), InPlaceDelta.NONE);
            Due.is("no byte 200 of 200", States.fullCode().code(200), InPlaceDelta.NONE);
            tool.clearCode();
            Due.is("no byte that was there", tool.code(0), InPlaceDelta.NONE);
        });
        Sentences.test("Throws `IllegalArgumentException` if index is less than -1", () -> {
            for (int index : new int[] {-2, -3, LOW}) {
                Twin.refusesArgument("index " + index, States::underWay, t -> t.code(index));
                Twin.refusesArgument("index " + index + ", empty", InPlaceDelta::new, t -> t.code(index));
            }
        });
    }

    private static void decode() {
        Sentences.from("Promise 19");
        Sentences.test("Decodes the code; its commands, in their order, become the delta.", () -> {
            InPlaceDelta tool = States.underWay();
            tool.decode();
            Due.is("those of the code", Tools.deltaOf(tool), "1 12 6 5; 1 0 12 5; 2 -1 0 5; 2 -1 5 1; 2 -1 11 1");
            Due.is("no conflict of the former delta", tool.leastLoss(), 0);
            tool.plan(0);
            tool.clearCode();
            tool.encode();
            tool.decode();
            Due.is("the bytes of its ADD commands, too", tool.digest(), redecoded().digest());
            InPlaceDelta order = Tools.ofDecoded("", 73, 9, 9, 3, 2, 7, 1, 65, 1, 3, 4, 2, 2, 0, 2, 66, 67);
            Due.is("not sorted", Tools.deltaOf(order), "2 -1 7 1; 1 3 4 2; 2 -1 0 2");
            InPlaceDelta none = Tools.ofDecoded("", 73, 64, 64, 0);
            Due.is("no commands", none.commands(), 0);
            Due.throwsState("its source length is in force", () -> none.plan(0));
        });
        Sentences.test("The plan and the work are dropped.", () -> {
            Twin.dropsPlanAndWork("another delta", States::underWay, t -> t.decode());
            Twin.dropsPlanAndWork("the same delta", CodeSentences::sameDelta, t -> t.decode());
        });
        Sentences.test("The code stays as it is.", () -> {
            InPlaceDelta tool = States.underWay();
            String code = Tools.codeOf(tool);
            Due.is("decode", tool.decode(), 5);
            Due.is("the code", Tools.codeOf(tool), code);
            Due.is("decode again", tool.decode(), 5);
            tool.write(0);
            tool.decode();
            Due.is("with a fault", Tools.codeOf(tool), code + " 0");
        });
        Sentences.test("Undoable, if the code has no fault.", () -> {
            Twin.isUndoable("decode", States::underWay, t -> t.decode());
            Twin.isUndoable("the same decode", States::thirtyAdds, t -> t.decode());
            Twin.changesNothing("with a fault", States::fullCode, t -> t.decode(), -10);
        });
        Sentences.test("Returns the number of commands", () -> {
            Due.is("0", Tools.ofDecoded("", 73, 0, 0, 0).decode(), 0);
            Due.is("1", Tools.ofDecoded("", 73, 0, 1, 1, 2, 0, 1, 9).decode(), 1);
            Due.is("30", States.thirtyAdds().decode(), 30);
        });
        Sentences.test("-10 minus the fault if the code has a fault (then nothing changes)", () -> {
            Twin.changesNothing("an empty code", States::circle, t -> t.decode(), -10);
            Twin.changesNothing("fault 0", States::fullCode, t -> t.decode(), -10);
            Twin.changesNothing("fault 29", CodeSentences::withOneMore, t -> t.decode(), -39);
            Twin.changesNothing("fault 159", CodeSentences::longestWithOneMore, t -> t.decode(), -169);
            // The fault is found at the end, when all commands have been read.
            InPlaceDelta tool = withOneMore();
            tool.decode();
            Due.is("the delta stays", Tools.deltaOf(tool), Tools.deltaOf(States.circle()));
            Due.is("the plan stays", Tools.orderOf(tool), "2 4 0 1 3");
            Due.is("the work stays", tool.step(), 3);
            tool.undo();
            tool.undo();
            Due.is("behind undo there is no fault", tool.decode(), 5);
        });
    }

    /** A code that has been decoded, encoded by a plan and decoded again, in as many undoable calls. */
    private static InPlaceDelta redecoded() {
        InPlaceDelta tool = Tools.ofVersions("abcde.fghij.klmno", "fghij-klmno-abcde");
        int[] bytes = {73, 17, 17, 5, 1, 12, 6, 5, 1, 0, 12, 5, 2, 0, 5, 'f', 'g', 'h', 'i', 'j',
            2, 5, 1, '-', 2, 11, 1, '-'};
        Tools.writeAll(tool, bytes);
        tool.write(Tools.checkOf(bytes));
        tool.decode();
        return tool;
    }

    /** A code of the very delta that is there, with a plan and a work. */
    private static InPlaceDelta sameDelta() {
        InPlaceDelta tool = States.fullVersions();
        tool.decode();
        tool.plan(0);
        tool.begin();
        return tool;
    }

    private static InPlaceDelta withOneMore() {
        InPlaceDelta tool = States.underWay();
        tool.write(0);
        return tool;
    }

    private static InPlaceDelta longestWithOneMore() {
        InPlaceDelta tool = States.thirtyAdds();
        tool.write(0);
        return tool;
    }
}

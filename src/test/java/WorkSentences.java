/** Promises 20 to 24, sentence by sentence. */
final class WorkSentences {
    private static final int LOW = States.LOW;
    private static final int HIGH = States.HIGH;

    private WorkSentences() {
    }

    static void run() {
        begin();
        step();
        workByte();
        compare();
        ratio();
    }

    private static void begin() {
        Sentences.from("Promise 20");
        Sentences.test("Begins the work by the plan, in place of the former work.", () -> {
            InPlaceDelta tool = States.underWay();
            Due.is("the former one has four left", Tools.workOf(tool), "abcde.klmno.klmno");
            Due.is("the new one", tool.begin(), 5);
            Due.is("begins anew", Tools.workOf(tool), "abcde.fghij.klmno");
            InPlaceDelta end = States.atEnd();
            Due.is("in place of one that has ended", end.begin(), 5);
            Due.is("the old bytes", end.workByte(0), (int) 'a');
            InPlaceDelta cut = Tools.ofMade("abcdefgh", "efgh");
            cut.plan(0);
            Tools.finish(cut);
            Due.is("cut", cut.workByte(-1), 4);
            cut.begin();
            Due.is("not cut any more", Tools.workOf(cut), "abcdefgh");
            Due.is("the plan stays", cut.planned(0), 0);
        });
        Sentences.test("Undoable.", () -> {
            Twin.isUndoable("in place of another work", States::underWay, t -> t.begin());
            Twin.isUndoable("the first work", WorkSentences::planned, t -> t.begin());
        });
        Sentences.test("Returns the number of commands to be carried out.", () -> {
            InPlaceDelta none = new InPlaceDelta();
            none.plan(0);
            Due.is("0", none.begin(), 0);
            Due.is("5", planned().begin(), 5);
            InPlaceDelta most = States.thirtyAdds();
            most.plan(0);
            Due.is("30", most.begin(), 30);
        });
        Sentences.test("Throws `IllegalStateException` if there is no plan", () -> {
            Twin.refusesState("before plan", States::circle, t -> t.begin());
            Twin.refusesState("dropped", States::oldTooLong, t -> t.begin());
            Twin.refusesState("a new object", InPlaceDelta::new, t -> t.begin());
        });
    }

    private static InPlaceDelta planned() {
        InPlaceDelta tool = States.circle();
        tool.plan(0);
        return tool;
    }

    private static void step() {
        Sentences.from("Promise 21");
        Sentences.test("Carries out the next command of the work.", () -> {
            InPlaceDelta tool = States.underWay();
            String[] works = {"abcde.klmno.abcde", "fghij.klmno.abcde", "fghij-klmno.abcde", "fghij-klmno-abcde"};
            for (String work : works) {
                tool.step();
                Due.is("the work", Tools.workOf(tool), work);
            }
            InPlaceDelta most = States.thirtyAdds();
            most.plan(0);
            Due.is("30 steps", Tools.finish(most), 30);
            Due.is("the last byte", most.workByte(63), 163);
            InPlaceDelta ends = Tools.ofCopies(64, 63, 0, 1, 0, 63, 1);
            ends.plan(0);
            Tools.finish(ends);
            Due.is("the first and the last byte", ends.workByte(0) + " " + ends.workByte(63), "111 48");
        });
        Sentences.test("Undoable.", () -> {
            Twin.isUndoable("a COPY", States::underWay, t -> t.step());
            Twin.isUndoable("the last command", States::fullVersions, t -> t.step());
            Twin.isUndoable("the last command, with a cut", WorkSentences::beforeTheCut, t -> t.step());
        });
        Sentences.test("Returns the number of commands that are left.", () -> {
            InPlaceDelta most = States.thirtyAdds();
            most.plan(0);
            most.begin();
            for (int left = 29; left >= 0; left--) {
                Due.is("left", most.step(), left);
            }
            most.undo();
            Due.is("the last one again", most.step(), 0);
        });
        Sentences.test("Throws `IllegalStateException` if there is no work, or no command is left", () -> {
            Twin.refusesState("a new object", InPlaceDelta::new, t -> t.step());
            Twin.refusesState("a plan alone", WorkSentences::planned, t -> t.step());
            Twin.refusesState("dropped", States::oldTooLong, t -> t.step());
            Twin.refusesState("no command left", States::atEnd, t -> t.step());
            InPlaceDelta none = new InPlaceDelta();
            none.plan(0);
            none.begin();
            Due.throwsState("no commands at all", () -> none.step());
            Due.is("the work is there all the same", none.workByte(-1), 0);
        });
    }

    private static InPlaceDelta beforeTheCut() {
        InPlaceDelta tool = Tools.ofMade("abcdefgh", "efgh");
        tool.plan(0);
        tool.begin();
        return tool;
    }

    private static void workByte() {
        Sentences.from("Promise 22");
        Sentences.test("Returns a byte of the work.", () -> {
            Twin.changesNothing("the first", States::underWay, t -> t.workByte(0), (int) 'a');
            Twin.changesNothing("one that a command has written", States::underWay, t -> t.workByte(6), (int) 'k');
        });
        Sentences.test("index: index of the byte, from 0, or -1 for the length of the work", () -> {
            InPlaceDelta tool = States.fullVersions();
            Due.is("-1", tool.workByte(-1), 64);
            Due.is("0", tool.workByte(0), (int) '0');
            Due.is("63", tool.workByte(63), '0' + 63);
        });
        Sentences.test("Returns the byte, or the length if index is -1; NONE if the work has no such byte.", () -> {
            InPlaceDelta tool = Tools.ofMade("\u00ffabcdef", "abcd");
            tool.plan(0);
            tool.begin();
            Due.is("255", tool.workByte(0), 255);
            Due.is("the last one", tool.workByte(6), (int) 'f');
            Due.is("no byte 7", tool.workByte(7), InPlaceDelta.NONE);
            tool.step();
            Due.is("the length of what is cut", tool.workByte(-1), 4);
            Due.is("the last one of it", tool.workByte(3), (int) 'd');
            Due.is("no byte 4", tool.workByte(4), InPlaceDelta.NONE);
            Due.is("no byte far away", tool.workByte(HIGH), InPlaceDelta.NONE);
            Due.is("no byte 64 of 64", States.fullVersions().workByte(64), InPlaceDelta.NONE);
            InPlaceDelta none = new InPlaceDelta();
            none.plan(0);
            none.begin();
            Due.is("the length 0", none.workByte(-1), 0);
            Due.is("no byte 0", none.workByte(0), InPlaceDelta.NONE);
        });
        Sentences.test("Throws `IllegalArgumentException` if index is less than -1", () -> {
            for (int index : new int[] {-2, -3, LOW}) {
                Twin.refusesArgument("index " + index, States::underWay, t -> t.workByte(index));
                Twin.refusesArgument("index " + index + ", no work", States::circle, t -> t.workByte(index));
            }
        });
        Sentences.test("Throws `IllegalStateException` if there is no work", () -> {
            for (int index : new int[] {-1, 0, 17, HIGH}) {
                Twin.refusesState("index " + index, WorkSentences::planned, t -> t.workByte(index));
                Twin.refusesState("index " + index + ", dropped", States::oldTooLong, t -> t.workByte(index));
            }
            Twin.refusesState("a new object", InPlaceDelta::new, t -> t.workByte(-1));
        });
    }

    /** Compares a work without commands, so the old version cut or filled with zeros, with a new version. */
    private static void compared(String what, String old, int targetLength, String fresh, int due) {
        InPlaceDelta tool = Tools.ofDecoded(old, 73, old.length(), targetLength, 0);
        Tools.appendAll(tool, 1, fresh);
        tool.plan(0);
        tool.begin();
        Due.is(what, tool.compare(), due);
    }

    private static void compare() {
        Sentences.from("Promise 23");
        Sentences.test("Compares the work with the new version.", () -> {
            Twin.changesNothing("under way", States::underWay, t -> t.compare(), 0);
            Twin.changesNothing("at the end", States::atEnd, t -> t.compare(), InPlaceDelta.NONE);
            compared("not the old version", "abcd", 2, "ab", InPlaceDelta.NONE);
        });
        Sentences.test("Returns the index of the first byte that differs (or that only one of them has); NONE if they "
                + "are equal.", () -> {
            compared("the first byte", "abcd", 4, "Xbcd", 0);
            compared("the last byte", "abcd", 4, "abcX", 3);
            compared("the first of two", "abcd", 4, "aXcX", 1);
            compared("only the work has it", "abcd", 4, "abc", 3);
            compared("only the new version has it", "abc", 3, "abcd", 3);
            compared("only the new version has it, a zero", "abc", 3, "abc\0", 3);
            compared("only the work has it, a zero", "abc", 4, "abc", 3);
            compared("the work is empty", "", 0, "a", 0);
            compared("the new version is empty", "a", 1, "", 0);
            compared("a byte that differs before the end of one", "abX", 3, "abcd", 2);
            compared("both are empty", "abcd", 0, "", InPlaceDelta.NONE);
            compared("equal", "abcd", 4, "abcd", InPlaceDelta.NONE);
            compared("equal with a zero", "abcd", 5, "abcd\0", InPlaceDelta.NONE);
            compared("64 equal bytes", Tools.letters(64), 64, Tools.letters(64), InPlaceDelta.NONE);
            compared("64 bytes, the last differs", Tools.letters(64), 64, Tools.letters(63) + "!", 63);
        });
        Sentences.test("Throws `IllegalStateException` if there is no work", () -> {
            Twin.refusesState("a new object", InPlaceDelta::new, t -> t.compare());
            Twin.refusesState("a plan alone", WorkSentences::planned, t -> t.compare());
            Twin.refusesState("dropped", States::oldTooLong, t -> t.compare());
        });
    }

    private static void ratio() {
        Sentences.from("Promise 24");
        Sentences.test("Returns the length of the code divided by the length of the new version.", () -> {
            Twin.changesNothing("29 and 17", States::underWay, t -> t.ratio(), 29.0 / 17.0);
            Due.is("200 and 17", States.fullCode().ratio(), 200.0 / 17.0);
        });
        Sentences.test("Returns the length of the code, converted to double, divided by the length of the new version, "
                + "converted to double; 0.0 if the new version is empty.", () -> {
            InPlaceDelta tool = new InPlaceDelta();
            Due.is("both are empty", tool.ratio(), 0.0);
            tool.write(0);
            Due.is("the new version is empty", tool.ratio(), 0.0);
            tool.append(0, 1);
            Due.is("the old version does not matter", tool.ratio(), 0.0);
            tool.append(1, 1);
            Due.is("1 and 1", tool.ratio(), 1.0);
            Tools.appendAll(tool, 1, "ab");
            Due.is("1 and 3", tool.ratio(), 1.0 / 3.0);
            tool.clearCode();
            Due.is("0 and 3", tool.ratio(), 0.0);
            tool.clear(1);
            Due.is("the new version is emptied", tool.ratio(), 0.0);
            InPlaceDelta full = Tools.ofVersions("", Tools.letters(64));
            for (int i = 0; i < 200; i++) {
                full.write(0);
            }
            Due.is("200 and 64", full.ratio(), 3.125);
        });
    }
}

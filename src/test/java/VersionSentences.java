/** Promises 1 to 5, sentence by sentence. */
final class VersionSentences {
    private static final int LOW = States.LOW;
    private static final int HIGH = States.HIGH;

    private VersionSentences() {
    }

    static void run() {
        newObject();
        append();
        appendExceptions();
        patch();
        patchArguments();
        clear();
        byteOf();
    }

    private static void newObject() {
        Sentences.from("Promise 1");
        Sentences.test("Creates a tool with empty versions, an empty delta without a plan, an empty code and no work.",
                () -> {
            InPlaceDelta tool = new InPlaceDelta();
            Due.is("all of it", tool.digest(), Tools.hashOf(0, 0, 0, 0, 0, 0, 0, 0, 0, 0));
            Due.throwsIndex("no old byte", () -> tool.byteOf(0, 0));
            Due.throwsIndex("no new byte", () -> tool.byteOf(1, 0));
            Due.is("no commands", tool.commands(), 0);
            Due.throwsIndex("no command 0", () -> tool.command(0, 0));
            Due.throwsState("no plan", () -> tool.converted());
            Due.is("no code", tool.code(-1), 0);
            Due.throwsState("no work", () -> tool.workByte(-1));
            Due.throwsState("nothing saved", () -> tool.undo());
            InPlaceDelta used = States.underWay();
            Due.is("another tool is not touched", new InPlaceDelta().digest() != used.digest());
            Due.is("nor this one", tool.append(0, 1), 1);
        });
    }

    private static void append() {
        Sentences.from("Promise 2");
        Sentences.test("Appends a byte to a version.", () -> {
            InPlaceDelta tool = Tools.ofVersions("ab", "c");
            tool.append(0, 'x');
            Due.is("behind the others", tool.byteOf(0, 2), (int) 'x');
            Due.is("the one before it", tool.byteOf(0, 1), (int) 'b');
            Due.throwsIndex("not to the other version", () -> tool.byteOf(1, 1));
            tool.append(1, 'y');
            Due.is("the new one", tool.byteOf(1, 1), (int) 'y');
            tool.clear(0);
            tool.append(0, 'z');
            Due.is("to an empty one", tool.byteOf(0, 0), (int) 'z');
            InPlaceDelta made = States.underWay();
            made.append(0, 1);
            Due.is("the delta stays", made.commands(), 5);
            Due.is("the code stays", made.code(-1), 29);
        });
        Sentences.test("The plan and the work are dropped.", () -> {
            Twin.dropsPlanAndWork("the old version", States::underWay, t -> t.append(0, 0));
            Twin.dropsPlanAndWork("the new version", States::underWay, t -> t.append(1, 0));
        });
        Sentences.test("Undoable.", () -> {
            Twin.isUndoable("append to the old version", States::underWay, t -> t.append(0, 9));
            Twin.isUndoable("append to the new version", States::underWay, t -> t.append(1, 9));
        });
        Sentences.test("version: 0 for the old one, 1 for the new one", () -> {
            InPlaceDelta tool = new InPlaceDelta();
            tool.append(0, 5);
            tool.append(1, 6);
            Due.is("the digest has the old one first", tool.digest(), Tools.hashOf(1, 5, 1, 6, 0, 0, 0, 0, 0, 0, 0, 2));
        });
        Sentences.test("value: the byte, 0 to 255", () -> {
            InPlaceDelta tool = new InPlaceDelta();
            for (int value : new int[] {0, 1, 127, 128, 254, 255}) {
                int length = tool.append(1, value);
                Due.is("the byte " + value, tool.byteOf(1, length - 1), value);
            }
        });
    }

    private static void appendExceptions() {
        Sentences.test("Returns the new length of the version.", () -> {
            InPlaceDelta tool = new InPlaceDelta();
            Due.is("1", tool.append(1, 9), 1);
            for (int length = 1; length <= 64; length++) {
                Due.is("the old version", tool.append(0, 0), length);
            }
            Due.is("2", tool.append(1, 9), 2);
            tool.undo();
            Due.is("2 again", tool.append(1, 8), 2);
        });
        Sentences.test("Throws `IllegalArgumentException` if an argument is out of range", () -> {
            for (int version : new int[] {-1, 2, LOW, HIGH}) {
                Twin.refusesArgument("version " + version, States::underWay, t -> t.append(version, 0));
            }
            for (int value : new int[] {-1, 256, LOW, HIGH}) {
                Twin.refusesArgument("value " + value, States::underWay, t -> t.append(0, value));
                Twin.refusesArgument("value " + value + " for the new one", States::underWay, t -> t.append(1, value));
            }
        });
        Sentences.test("Throws `IllegalStateException` if the version has 64 bytes", () -> {
            Twin.refusesState("the old one", States::fullVersions, t -> t.append(0, 0));
            Twin.refusesState("the new one", States::fullVersions, t -> t.append(1, 255));
            InPlaceDelta tool = Tools.ofVersions(Tools.letters(63), Tools.letters(64));
            Due.is("63 bytes are not 64, and the other version does not matter", tool.append(0, 1), 64);
            Due.throwsState("then it has 64", () -> tool.append(0, 1));
            tool.undo();
            Due.is("and 63 behind undo", tool.append(0, 2), 64);
            tool.clear(1);
            Due.is("and none behind clear", tool.append(1, 2), 1);
        });
    }

    private static void patch() {
        Sentences.from("Promise 3");
        Sentences.test("Replaces a byte of a version.", () -> {
            InPlaceDelta tool = Tools.ofVersions("abc", "def");
            tool.patch(0, 1, 'X');
            tool.patch(1, 2, 'Y');
            String bytes = "";
            for (int i = 0; i < 6; i++) {
                bytes += (char) tool.byteOf(i / 3, i % 3);
            }
            Due.is("these two and no other", bytes, "aXcdeY");
            Due.throwsIndex("the length stays", () -> tool.byteOf(0, 3));
            InPlaceDelta made = States.underWay();
            made.patch(1, 5, '+');
            Due.is("the delta stays", Tools.deltaOf(made), Tools.deltaOf(States.circle()));
            made.plan(0);
            Tools.finish(made);
            Due.is("with its bytes", Tools.workOf(made), "fghij-klmno-abcde");
            Due.is("so that the new version differs now", made.compare(), 5);
        });
        Sentences.test("The plan and the work are dropped.", () -> {
            Twin.dropsPlanAndWork("the old version", States::underWay, t -> t.patch(0, 0, 0));
            Twin.dropsPlanAndWork("the new version", States::underWay, t -> t.patch(1, 16, 0));
            Twin.dropsPlanAndWork("the same byte", States::underWay, t -> t.patch(0, 0, 'a'));
        });
        Sentences.test("Undoable.", () -> {
            Twin.isUndoable("patch of the old version", States::underWay, t -> t.patch(0, 0, 9));
            Twin.isUndoable("patch of the new version", States::underWay, t -> t.patch(1, 16, 9));
            Twin.isUndoable("patch with the same byte", States::underWay, t -> t.patch(1, 0, 'f'));
        });
        Sentences.test("version: 0 for the old one, 1 for the new one", () -> {
            InPlaceDelta tool = Tools.ofVersions("a", "b");
            Due.is("the old one", tool.patch(0, 0, 1), (int) 'a');
            Due.is("the new one", tool.patch(1, 0, 2), (int) 'b');
        });
        Sentences.test("index: index of a byte of the version", () -> {
            InPlaceDelta tool = States.fullVersions();
            Due.is("the first", tool.patch(0, 0, 1), (int) '0');
            Due.is("the last", tool.patch(1, 63, 1), (int) '!');
            InPlaceDelta uneven = Tools.ofVersions("abc", "d");
            Due.is("2 is one of the old version", uneven.patch(0, 2, 1), (int) 'c');
            Due.throwsIndex("but none of the new one", () -> uneven.patch(1, 2, 1));
        });
    }

    private static void patchArguments() {
        Sentences.test("value: the byte, 0 to 255", () -> {
            InPlaceDelta tool = Tools.ofVersions("a", "");
            tool.patch(0, 0, 0);
            Due.is("0", tool.byteOf(0, 0), 0);
            tool.patch(0, 0, 255);
            Due.is("255", tool.byteOf(0, 0), 255);
        });
        Sentences.test("Returns the previous byte.", () -> {
            InPlaceDelta tool = Tools.ofVersions("a", "");
            Due.is("a", tool.patch(0, 0, 255), (int) 'a');
            Due.is("255", tool.patch(0, 0, 0), 255);
            Due.is("0", tool.patch(0, 0, 0), 0);
            Due.is("0 again", tool.patch(0, 0, 7), 0);
        });
        Sentences.test("Throws `IllegalArgumentException` if version or value is out of range", () -> {
            for (int version : new int[] {-1, 2, LOW, HIGH}) {
                Twin.refusesArgument("version " + version, States::underWay, t -> t.patch(version, 0, 0));
            }
            for (int value : new int[] {-1, 256, LOW, HIGH}) {
                Twin.refusesArgument("value " + value, States::underWay, t -> t.patch(1, 0, value));
                Twin.refusesArgument("value " + value + " and no byte", States::underWay, t -> t.patch(1, 17, value));
            }
        });
        Sentences.test("Throws `IndexOutOfBoundsException` if the version has no such byte", () -> {
            for (int index : new int[] {-1, 17, LOW, HIGH}) {
                Twin.refusesIndex("the old one, " + index, States::underWay, t -> t.patch(0, index, 0));
                Twin.refusesIndex("the new one, " + index, States::underWay, t -> t.patch(1, index, 0));
            }
            Twin.refusesIndex("64 in a full version", States::fullVersions, t -> t.patch(0, 64, 0));
            Twin.refusesIndex("0 in an empty version", InPlaceDelta::new, t -> t.patch(0, 0, 0));
            InPlaceDelta tool = States.underWay();
            tool.clear(0);
            Due.throwsIndex("a byte that was there", () -> tool.patch(0, 0, 0));
        });
    }

    private static void clear() {
        Sentences.from("Promise 4");
        Sentences.test("Empties a version.", () -> {
            InPlaceDelta tool = States.fullVersions();
            tool.clear(0);
            Due.throwsIndex("no old byte", () -> tool.byteOf(0, 0));
            Due.is("the new version stays", tool.byteOf(1, 63), (int) '!');
            Due.is("the delta stays", tool.commands(), 2);
            tool.clear(1);
            Due.throwsIndex("no new byte", () -> tool.byteOf(1, 0));
            Tools.appendAll(tool, 0, "x");
            Due.throwsIndex("nothing comes back with an append", () -> tool.byteOf(0, 1));
        });
        Sentences.test("The plan and the work are dropped.", () -> {
            Twin.dropsPlanAndWork("the old version", States::underWay, t -> t.clear(0));
            Twin.dropsPlanAndWork("the new version", States::underWay, t -> t.clear(1));
            Twin.dropsPlanAndWork("an empty version", VersionSentences::emptyAtWork, t -> t.clear(0));
        });
        Sentences.test("Undoable.", () -> {
            Twin.isUndoable("clear of the old version", States::underWay, t -> t.clear(0));
            Twin.isUndoable("clear of the new version", States::fullVersions, t -> t.clear(1));
            Twin.isUndoable("clear of an empty version", States::thirtyAdds, t -> t.clear(1));
        });
        Sentences.test("version: 0 for the old one, 1 for the new one", () -> {
            InPlaceDelta tool = Tools.ofVersions("abc", "de");
            Due.is("the old one", tool.clear(0), 3);
            Due.is("the new one", tool.clear(1), 2);
        });
        Sentences.test("Returns the length that it had.", () -> {
            Due.is("64", States.fullVersions().clear(1), 64);
            InPlaceDelta tool = Tools.ofVersions("a", "");
            Due.is("1", tool.clear(0), 1);
            Due.is("0 then", tool.clear(0), 0);
            Due.is("0", tool.clear(1), 0);
        });
        Sentences.test("Throws `IllegalArgumentException` if version is out of range", () -> {
            for (int version : new int[] {-1, 2, LOW, HIGH}) {
                Twin.refusesArgument("version " + version, States::underWay, t -> t.clear(version));
            }
        });
    }

    private static InPlaceDelta emptyAtWork() {
        InPlaceDelta tool = new InPlaceDelta();
        tool.plan(0);
        tool.begin();
        return tool;
    }

    private static void byteOf() {
        Sentences.from("Promise 5");
        Sentences.test("Returns a byte of a version.", () -> {
            Twin.changesNothing("the first old one", States::underWay, t -> t.byteOf(0, 0), (int) 'a');
            Twin.changesNothing("the last new one", States::underWay, t -> t.byteOf(1, 16), (int) 'e');
        });
        Sentences.test("version: 0 for the old one, 1 for the new one", () -> {
            InPlaceDelta tool = Tools.ofVersions("a", "b");
            Due.is("the old one", tool.byteOf(0, 0), (int) 'a');
            Due.is("the new one", tool.byteOf(1, 0), (int) 'b');
        });
        Sentences.test("index: index of a byte of the version", () -> {
            InPlaceDelta tool = States.fullVersions();
            for (int i = 0; i < 64; i++) {
                Due.is("old " + i, tool.byteOf(0, i), '0' + i);
            }
        });
        Sentences.test("Returns the byte.", () -> {
            InPlaceDelta tool = new InPlaceDelta();
            tool.append(0, 0);
            tool.append(1, 255);
            Due.is("0", tool.byteOf(0, 0), 0);
            Due.is("255", tool.byteOf(1, 0), 255);
        });
        Sentences.test("Throws `IllegalArgumentException` if version is out of range", () -> {
            for (int version : new int[] {-1, 2, LOW, HIGH}) {
                Twin.refusesArgument("version " + version, States::underWay, t -> t.byteOf(version, 0));
                Twin.refusesArgument("version " + version + ", no byte", States::underWay, t -> t.byteOf(version, 17));
            }
        });
        Sentences.test("Throws `IndexOutOfBoundsException` if the version has no such byte", () -> {
            for (int index : new int[] {-1, 17, LOW, HIGH}) {
                Twin.refusesIndex("the old one, " + index, States::underWay, t -> t.byteOf(0, index));
                Twin.refusesIndex("the new one, " + index, States::underWay, t -> t.byteOf(1, index));
            }
            Twin.refusesIndex("64 in a full version", States::fullVersions, t -> t.byteOf(1, 64));
            Twin.refusesIndex("0 in an empty version", InPlaceDelta::new, t -> t.byteOf(0, 0));
        });
    }
}

/** Promises 6 to 9, sentence by sentence. */
final class DeltaSentences {
    private static final int LOW = States.LOW;
    private static final int HIGH = States.HIGH;

    private DeltaSentences() {
    }

    static void run() {
        make();
        commands();
        command();
        mustPrecede();
    }

    private static void make() {
        Sentences.from("Promise 6");
        Sentences.test("Makes the delta from the old version to the new one, in place of the former delta.", () -> {
            InPlaceDelta tool = States.circle();
            tool.clear(1);
            Tools.appendAll(tool, 1, "XXabcde-fghij");
            Due.is("the former one stays until then", tool.commands(), 5);
            tool.make();
            Due.is("the new one", Tools.deltaOf(tool), "2 -1 0 2; 1 0 2 5; 2 -1 7 1; 1 6 8 5");
            Due.is("no former conflict", tool.mustPrecede(0, 2) || tool.mustPrecede(2, 0), false);
            Due.is("but that of now", tool.mustPrecede(3, 1), true);
            Due.is("no former loss", tool.leastLoss(), 0);
            tool.clear(1);
            Due.is("an empty one", tool.make(), 0);
            Due.throwsIndex("no former command", () -> tool.command(0, 0));
            InPlaceDelta decoded = States.thirtyAdds();
            Due.is("in place of a decoded one", decoded.make(), 0);
            decoded.plan(0);
            decoded.encode();
            Due.is("its lengths, too", Tools.codeOf(decoded), "73 0 0 0 73");
        });
        Sentences.test("The plan and the work are dropped.", () -> {
            Twin.dropsPlanAndWork("another delta", States::underWay, t -> t.make());
            Twin.dropsPlanAndWork("the same delta", States::fullVersions, t -> t.make());
        });
        Sentences.test("Undoable.", () -> {
            Twin.isUndoable("make", () -> Tools.ofVersions("abcd", "xabcd"), t -> t.make());
            Twin.isUndoable("make in place of a delta of 30 commands", States::twelveCopies, t -> t.make());
            Twin.isUndoable("the same make", States::underWay, t -> t.make());
        });
        Sentences.test("Returns the number of commands.", () -> {
            Due.is("0", new InPlaceDelta().make(), 0);
            Due.is("0 for an empty new version", Tools.ofVersions("abcd", "").make(), 0);
            Due.is("1", Tools.ofVersions("abcd", "abcd").make(), 1);
            Due.is("the most: 25", Tools.ofVersions("abcd", "-abcd".repeat(12) + "-abc").make(), 25);
        });
    }

    private static void commands() {
        Sentences.from("Promise 7");
        Sentences.test("Returns the number of commands of the delta.", () -> {
            Twin.changesNothing("five", States::underWay, t -> t.commands(), 5);
            InPlaceDelta tool = States.circle();
            tool.clear(0);
            tool.clear(1);
            Due.is("the versions do not matter", tool.commands(), 5);
            tool.undo();
            tool.undo();
            tool.undo();
            Due.is("none behind the undo of make", tool.commands(), 0);
        });
        Sentences.test("Returns the number of commands, 0 to 30.", () -> {
            Due.is("0", new InPlaceDelta().commands(), 0);
            Due.is("30", States.thirtyAdds().commands(), 30);
        });
    }

    private static void command() {
        Sentences.from("Promise 8");
        Sentences.test("Describes a command of the delta.", () -> {
            InPlaceDelta tool = Tools.ofMade("0abcd", "xabcd");
            Due.is("both", Tools.deltaOf(tool), "2 -1 0 1; 1 1 1 4");
            Twin.changesNothing("a look", States::underWay, t -> t.command(4, 2), 12);
        });
        Sentences.test("command: number of a command", () -> {
            InPlaceDelta tool = States.twelveCopies();
            Due.is("the first one", tool.command(0, 2), 40);
            Due.is("the last one", tool.command(29, 2), 31);
        });
        Sentences.test("what: 0: 1 for a COPY, 2 for an ADD", () -> {
            InPlaceDelta tool = States.twelveCopies();
            for (int i = 0; i < 30; i++) {
                Due.is("command " + i, tool.command(i, 0), i < 18 ? 2 : 1);
            }
        });
        Sentences.test("1: its source position (NONE for an ADD)", () -> {
            Due.is("an ADD", States.twelveCopies().command(17, 1), InPlaceDelta.NONE);
            Due.is("0 of a COPY", States.twelveCopies().command(18, 1), 0);
            Due.is("63 of a COPY", Tools.ofCopies(64, 63, 0, 1).command(0, 1), 63);
        });
        Sentences.test("2: its target position", () -> {
            Due.is("0 of a COPY", Tools.ofCopies(64, 63, 0, 1).command(0, 2), 0);
            Due.is("63 of a COPY", Tools.ofCopies(64, 0, 63, 1).command(0, 2), 63);
            Due.is("62 of an ADD", Tools.ofDecoded("", 73, 0, 64, 1, 2, 62, 2, 5, 5).command(0, 2), 62);
        });
        Sentences.test("3: its length", () -> {
            Due.is("1", Tools.ofCopies(64, 63, 0, 1).command(0, 3), 1);
            Due.is("64", Tools.ofCopies(64, 0, 0, 64).command(0, 3), 64);
            Due.is("64 of an ADD", Tools.ofMade("", Tools.letters(64)).command(0, 3), 64);
        });
        Sentences.test("Returns that value.", () -> {
            InPlaceDelta tool = Tools.ofCopies(64, 10, 20, 30);
            Due.is("0", tool.command(0, 0), 1);
            Due.is("1", tool.command(0, 1), 10);
            Due.is("2", tool.command(0, 2), 20);
            Due.is("3", tool.command(0, 3), 30);
        });
        Sentences.test("Throws `IndexOutOfBoundsException` if there is no such command", () -> {
            for (int command : new int[] {-1, 5, 30, LOW, HIGH}) {
                Twin.refusesIndex("command " + command, States::underWay, t -> t.command(command, 3));
                Twin.refusesIndex("command " + command + ", what 4", States::underWay, t -> t.command(command, 4));
            }
            Twin.refusesIndex("30 of 30", States::thirtyAdds, t -> t.command(30, 0));
            Twin.refusesIndex("0 of 0", InPlaceDelta::new, t -> t.command(0, 0));
        });
        Sentences.test("Throws `IllegalArgumentException` if what is out of range", () -> {
            for (int what : new int[] {-1, 4, LOW, HIGH}) {
                Twin.refusesArgument("what " + what, States::underWay, t -> t.command(4, what));
            }
        });
    }

    private static void mustPrecede() {
        Sentences.from("Promise 9");
        Sentences.test("Tells whether one command must be carried out before another one.", () -> {
            Twin.changesNothing("0 before 2", States::underWay, t -> t.mustPrecede(0, 2), true);
            Twin.changesNothing("not 2 before 0", States::underWay, t -> t.mustPrecede(2, 0), false);
        });
        Sentences.test("i: number of a command", () -> {
            Due.is("the last one", States.afterAdds(42, 40, 1, 40, 42, 1).mustPrecede(29, 28), true);
            Due.is("the first one", Tools.ofCopies(9, 4, 0, 2, 8, 4, 1).mustPrecede(0, 1), true);
        });
        Sentences.test("j: number of a command", () -> {
            Due.is("the last one", States.afterAdds(42, 40, 1, 40, 42, 1).mustPrecede(28, 29), true);
            Due.is("the first one", Tools.ofCopies(9, 4, 0, 2, 0, 8, 1).mustPrecede(1, 0), true);
        });
        Sentences.test("Returns whether both are COPY commands, i and j are different, and i must be carried out "
                + "before j.", () -> {
            // ADD 0 writes 0 to 3, COPY 1 reads 0 to 3 and writes 4 to 7, ADD 2 writes 8, COPY 3 reads 4 and writes 9.
            InPlaceDelta tool = Tools.ofDecoded("", 73, 10, 10, 4,
                    2, 0, 4, 1, 1, 1, 1, 1, 0, 4, 4, 2, 8, 1, 1, 1, 4, 9, 1);
            for (int i = 0; i < 4; i++) {
                for (int j = 0; j < 4; j++) {
                    Due.is(i + " before " + j, tool.mustPrecede(i, j), i == 3 && j == 1);
                }
            }
            Due.is("a COPY that reads what it writes", Tools.ofCopies(9, 0, 0, 9).mustPrecede(0, 0), false);
        });
        Sentences.test("Throws `IndexOutOfBoundsException` if there is no such command", () -> {
            for (int wrong : new int[] {-1, 5, 31, 32, LOW, HIGH}) {
                Twin.refusesIndex("i " + wrong, States::underWay, t -> t.mustPrecede(wrong, 0));
                Twin.refusesIndex("j " + wrong, States::underWay, t -> t.mustPrecede(0, wrong));
                Twin.refusesIndex("both " + wrong, States::underWay, t -> t.mustPrecede(wrong, wrong));
                Twin.refusesIndex("i " + wrong + ", j is an ADD", States::underWay, t -> t.mustPrecede(wrong, 1));
            }
            Twin.refusesIndex("i 30 of 30", States::twelveCopies, t -> t.mustPrecede(30, 29));
            Twin.refusesIndex("j 30 of 30", States::twelveCopies, t -> t.mustPrecede(29, 30));
            Twin.refusesIndex("0 of 0", InPlaceDelta::new, t -> t.mustPrecede(0, 0));
        });
    }
}

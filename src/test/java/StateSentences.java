import java.util.ArrayList;
import java.util.List;

/** Promises 25 and 26, sentence by sentence. */
final class StateSentences {
    private StateSentences() {
    }

    static void run() {
        undo();
        digest();
    }

    private static void undo() {
        Sentences.from("Promise 25");
        Sentences.test("Restores the most recently saved state and removes it from the saved states.", () -> {
            InPlaceDelta tool = new InPlaceDelta();
            List<Long> digests = new ArrayList<>();
            for (int i = 0; i < 4; i++) {
                digests.add(tool.digest());
                tool.write(i);
            }
            for (int i = 3; i >= 0; i--) {
                tool.undo();
                Due.is("state " + i, tool.digest(), digests.get(i));
            }
            Due.throwsState("no more", () -> tool.undo());
            tool.write(10);
            tool.write(11);
            tool.undo();
            tool.write(12);
            Due.is("undo saves nothing itself", tool.undo(), 1);
            Due.is("the state before the last write", Tools.codeOf(tool), "10");
            Due.is("then the one before the first", tool.undo(), 0);
            Due.is("an empty code", tool.code(-1), 0);
        });
        Sentences.test("Restores the most recently saved state", () -> {
            // The places of the saved states are used again and again.
            InPlaceDelta tool = new InPlaceDelta();
            for (int i = 0; i < 40; i++) {
                tool.append(0, i);
                tool.append(1, 100 + i);
                tool.write(200);
                Due.is("undo of the write", tool.undo(), Math.min(3, 2 * i + 2));
                Due.is("the code", tool.code(-1), 0);
                Due.is("the old version", tool.byteOf(0, i), i);
                Due.is("the new version", tool.byteOf(1, i), 100 + i);
            }
            for (int left = 2; left >= 0; left--) {
                Due.is("undo", tool.undo(), left);
            }
            Due.is("three appends are undone", tool.append(0, 1) + " " + tool.append(1, 1), "40 39");
        });
        Sentences.test("Returns the number of saved states that remain.", () -> {
            for (int calls = 1; calls <= 6; calls++) {
                InPlaceDelta tool = new InPlaceDelta();
                for (int i = 0; i < calls; i++) {
                    tool.clearCode();
                }
                Due.is("behind " + calls + " calls", tool.undo(), Math.min(calls, 4) - 1);
            }
        });
        Sentences.test("Throws `IllegalStateException` if there is no saved state", () -> {
            Twin.refusesState("a new object", InPlaceDelta::new, t -> t.undo());
            Twin.refusesState("all states are used up", StateSentences::usedUp, t -> t.undo());
            Twin.refusesState("calls that look alone", StateSentences::lookedAt, t -> t.undo());
            Twin.refusesState("calls that failed alone", StateSentences::failed, t -> t.undo());
        });
    }

    private static InPlaceDelta usedUp() {
        InPlaceDelta tool = States.underWay();
        for (int i = 0; i < 4; i++) {
            tool.undo();
        }
        return tool;
    }

    private static InPlaceDelta lookedAt() {
        InPlaceDelta tool = new InPlaceDelta();
        tool.commands();
        tool.leastLoss();
        tool.code(-1);
        tool.ratio();
        tool.digest();
        tool.decode();
        return tool;
    }

    private static InPlaceDelta failed() {
        InPlaceDelta tool = new InPlaceDelta();
        Due.answerOf(() -> tool.append(2, 0));
        Due.answerOf(() -> tool.patch(0, 0, 0));
        Due.answerOf(() -> tool.clear(2));
        Due.answerOf(() -> tool.plan(3));
        Due.answerOf(() -> tool.encode());
        Due.answerOf(() -> tool.write(256));
        Due.answerOf(() -> tool.begin());
        Due.answerOf(() -> tool.step());
        return tool;
    }

    private static void digest() {
        Sentences.from("Promise 26");
        Sentences.test("Returns a hash of the state.", () -> {
            Twin.changesNothing("it is a look", States::underWay, t -> t.digest(), States.underWay().digest());
            Due.is("another state", States.underWay().digest() != States.circle().digest());
        });
        Sentences.test("Start with h = 2777 and, for each of the following values v, set h = 31 * h + v", () -> {
            long h = 2777;
            for (int i = 0; i < 10; i++) {
                h = 31 * h;
            }
            Due.is("ten zeros", new InPlaceDelta().digest(), h);
        });
        digestParts();
        Sentences.test("Returns the hash, with the overflow of long arithmetic ignored.", () -> {
            int[] values = new int[1 + 64 + 1 + 64 + 8];
            values[0] = 64;
            values[65] = 64;
            for (int i = 0; i < 64; i++) {
                values[1 + i] = 255;
                values[66 + i] = 255;
            }
            values[values.length - 1] = 4;
            InPlaceDelta tool = Tools.ofVersions("\u00ff".repeat(64), "\u00ff".repeat(64));
            Due.is("128 bytes of 255", tool.digest(), Tools.hashOf(values));
        });
    }

    private static void digestParts() {
        Sentences.test("for each version its length and its bytes", () -> {
            Due.is("two and one", Tools.ofVersions("ab", "c").digest(),
                    Tools.hashOf(2, 'a', 'b', 1, 'c', 0, 0, 0, 0, 0, 0, 0, 3));
        });
        Sentences.test("the source length and the target length of the delta", () -> {
            InPlaceDelta tool = Tools.ofDecoded("", 73, 7, 9, 0);
            Due.is("7 and 9", tool.digest(), Tools.hashOf(0, 0, 7, 9, 0, 0, 0, 5, 73, 7, 9, 0, 89, 0, 4));
        });
        Sentences.test("the number of commands and, for each command, the values of command() for what = 0 to 3 and, "
                + "for an ADD, its bytes", () -> {
            InPlaceDelta tool = Tools.ofDecoded("", 73, 7, 9, 2, 2, 5, 3, 255, 0, 7, 1, 3, 1, 4);
            tool.clearCode();
            Due.is("an ADD and a COPY", tool.digest(),
                    Tools.hashOf(0, 0, 7, 9, 2, 2, -1, 5, 3, 255, 0, 7, 1, 3, 1, 4, 0, 0, 0, 0, 4));
        });
        Sentences.test("leastLoss()", () -> {
            InPlaceDelta tool = Tools.ofDecoded("", 73, 8, 8, 2, 1, 4, 0, 4, 1, 0, 4, 3);
            tool.clearCode();
            Due.is("3", tool.digest(), Tools.hashOf(0, 0, 8, 8, 2, 1, 4, 0, 4, 1, 0, 4, 3, 3, 0, 0, 0, 4));
        });
        Sentences.test("1 or 0 for whether there is a plan, and if there is one the commands in its order and the set "
                + "of converted ones", () -> {
            InPlaceDelta none = new InPlaceDelta();
            none.plan(0);
            Due.is("a plan without commands", none.digest(), Tools.hashOf(0, 0, 0, 0, 0, 0, 1, 0, 0, 0, 1));
            InPlaceDelta tool = Tools.ofDecoded("ab", 73, 2, 2, 2, 1, 1, 0, 1, 1, 0, 1, 1);
            tool.clearCode();
            tool.plan(0);
            int[] values = {2, 'a', 'b', 0, 2, 2, 2, 1, 1, 0, 1, 1, 0, 1, 1, 1, 1, 1, 0, 1, 0, 0, 4};
            Due.is("the order 1 0, the set 1", tool.digest(), Tools.hashOf(values));
            tool.append(1, 7);
            int[] dropped = {2, 'a', 'b', 1, 7, 2, 2, 2, 1, 1, 0, 1, 1, 0, 1, 1, 1, 0, 0, 0, 4};
            Due.is("no plan any more", tool.digest(), Tools.hashOf(dropped));
        });
        Sentences.test("the length of the code and its bytes", () -> {
            InPlaceDelta tool = new InPlaceDelta();
            Tools.writeAll(tool, 0, 255);
            Due.is("two", tool.digest(), Tools.hashOf(0, 0, 0, 0, 0, 0, 0, 2, 0, 255, 0, 2));
        });
        Sentences.test("1 or 0 for whether there is a work, and if there is one the number of commands that are left, "
                + "its length and its bytes", () -> {
            InPlaceDelta tool = Tools.ofMade("ab", "c");
            tool.plan(0);
            tool.begin();
            Due.is("one is left", tool.digest(),
                    Tools.hashOf(2, 'a', 'b', 1, 'c', 2, 1, 1, 2, -1, 0, 1, 'c', 0, 1, 0, 0, 0, 1, 1, 2, 'a', 'b', 4));
            tool.step();
            Due.is("none is left", tool.digest(),
                    Tools.hashOf(2, 'a', 'b', 1, 'c', 2, 1, 1, 2, -1, 0, 1, 'c', 0, 1, 0, 0, 0, 1, 0, 1, 'c', 4));
        });
        Sentences.test("the number of saved states", () -> {
            InPlaceDelta tool = new InPlaceDelta();
            for (int calls = 1; calls <= 6; calls++) {
                tool.clearCode();
                Due.is("behind " + calls + " calls", tool.digest(),
                        Tools.hashOf(0, 0, 0, 0, 0, 0, 0, 0, 0, Math.min(calls, 4)));
            }
            tool.undo();
            Due.is("behind undo", tool.digest(), Tools.hashOf(0, 0, 0, 0, 0, 0, 0, 0, 0, 3));
        });
    }
}

/** Promises 10 to 14, sentence by sentence. */
final class PlanSentences {
    private static final int LOW = States.LOW;
    private static final int HIGH = States.HIGH;

    private PlanSentences() {
    }

    static void run() {
        plan();
        planExceptions();
        planned();
        converted();
        loss();
        leastLoss();
    }

    private static void plan() {
        Sentences.from("Promise 10");
        Sentences.test("Makes a plan, in place of the former one.", () -> {
            InPlaceDelta tool = States.star();
            Due.is("policy 0, order", Tools.orderOf(tool), "4 0 1 2 3");
            Due.is("policy 0, loss", tool.loss(), 5);
            tool.plan(2);
            Due.is("policy 2, order", Tools.orderOf(tool), "0 4 1 2 3");
            Due.is("policy 2, set", tool.converted(), 8);
            Due.is("policy 2, loss", tool.loss(), 2);
            tool.plan(1);
            Due.is("policy 1, order", Tools.orderOf(tool), "0 1 2 3 4");
            Due.is("policy 1, set", tool.converted(), 8 + 16);
            Due.is("policy 1, loss", tool.loss(), 3);
            Due.is("the delta stays", tool.commands(), 5);
        });
        Sentences.test("The work is dropped.", () -> {
            InPlaceDelta tool = States.underWay();
            tool.plan(0);
            Due.throwsState("step", () -> tool.step());
            Due.throwsState("workByte", () -> tool.workByte(-1));
            Due.throwsState("compare", () -> tool.compare());
            Due.is("the code is not", tool.code(-1), 29);
            InPlaceDelta end = States.atEnd();
            end.plan(1);
            Due.throwsState("a work that has ended", () -> end.compare());
        });
        Sentences.test("Undoable.", () -> {
            Twin.isUndoable("the first plan", States::circle, t -> t.plan(1));
            Twin.isUndoable("a plan in place of another", States::star, t -> t.plan(1));
            Twin.isUndoable("a plan in place of another, policy 2", States::star, t -> t.plan(2));
            InPlaceDelta tool = States.star();
            tool.plan(2);
            tool.undo();
            Due.is("the former order", Tools.orderOf(tool), "4 0 1 2 3");
            Due.is("the former set", tool.converted(), 1 + 8);
            Due.is("the former loss", tool.loss(), 5);
            Twin.isUndoable("the same plan", States::atEnd, t -> t.plan(0));
        });
        Sentences.test("policy: 0 to 2", () -> {
            for (int policy = 0; policy <= 2; policy++) {
                Due.is("policy " + policy, States.circle().plan(policy), 1);
            }
        });
        Sentences.test("Returns the number of converted COPY commands.", () -> {
            Due.is("none of no commands", new InPlaceDelta().plan(2), 0);
            Due.is("none of twelve", States.twelveCopies().plan(0), 0);
            Due.is("six of twelve", sixSwaps().plan(0), 6);
            Due.is("eleven of twelve", behindAPair().plan(0), 11);
            Due.is("one of twelve", behindAPair().plan(2), 1);
        });
    }

    /** Six pairs of COPY commands that change places. */
    private static InPlaceDelta sixSwaps() {
        int[] copies = new int[36];
        for (int i = 0; i < 6; i++) {
            int[] pair = {2 * i + 1, 2 * i, 1, 2 * i, 2 * i + 1, 1};
            System.arraycopy(pair, 0, copies, 6 * i, 6);
        }
        return Tools.ofCopies(20, copies);
    }

    /** COPY 10, in a cycle with 11, must precede 0 to 9, too; all but 10, which has 11 bytes, have one byte. */
    private static InPlaceDelta behindAPair() {
        int[] copies = new int[36];
        for (int i = 0; i < 10; i++) {
            int[] copy = {50, i, 1};
            System.arraycopy(copy, 0, copies, 3 * i, 3);
        }
        int[] pair = {0, 20, 11, 20, 10, 1};
        System.arraycopy(pair, 0, copies, 30, 6);
        return Tools.ofCopies(51, copies);
    }

    private static void planExceptions() {
        Sentences.test("Throws `IllegalArgumentException` if policy is out of range", () -> {
            for (int policy : new int[] {-1, 3, LOW, HIGH}) {
                Twin.refusesArgument("policy " + policy, States::underWay, t -> t.plan(policy));
                Twin.refusesArgument("policy " + policy + ", length", States::oldTooLong, t -> t.plan(policy));
                Twin.refusesArgument("policy " + policy + ", no commands", InPlaceDelta::new, t -> t.plan(policy));
            }
        });
        Sentences.test("Throws `IllegalStateException` if the length of the old version is not the source length of "
                + "the delta", () -> {
            Twin.refusesState("longer by 1", States::oldTooLong, t -> t.plan(2));
            Twin.refusesState("shorter by 1", PlanSentences::oldTooShort, t -> t.plan(1));
            Twin.refusesState("none at all", PlanSentences::oldCleared, t -> t.plan(0));
            Twin.refusesState("no commands, but a source length", PlanSentences::sourceAlone, t -> t.plan(0));
            InPlaceDelta tool = oldTooShort();
            tool.append(0, 'z');
            Due.is("it has the length again, with another byte", tool.plan(0), 1);
            tool.clear(1);
            Due.is("the new version does not matter", tool.plan(0), 1);
            InPlaceDelta fresh = new InPlaceDelta();
            fresh.append(0, 1);
            Due.throwsState("a new delta needs none", () -> fresh.plan(0));
            fresh.clear(0);
            Due.is("and has it then", fresh.plan(0), 0);
        });
    }

    private static InPlaceDelta oldTooShort() {
        InPlaceDelta tool = States.underWay();
        tool.clear(0);
        Tools.appendAll(tool, 0, "abcde.fghij.klmn");
        return tool;
    }

    private static InPlaceDelta oldCleared() {
        InPlaceDelta tool = States.underWay();
        tool.clear(0);
        return tool;
    }

    private static InPlaceDelta sourceAlone() {
        return Tools.ofDecoded("", 73, 1, 0, 0);
    }

    private static void planned() {
        Sentences.from("Promise 11");
        Sentences.test("Returns a command in the order of the plan.", () -> {
            Twin.changesNothing("the first", States::underWay, t -> t.planned(0), 2);
            Twin.changesNothing("the last", States::underWay, t -> t.planned(4), 3);
        });
        Sentences.test("place: place in the order, from 0", () -> {
            InPlaceDelta tool = States.twelveCopies();
            tool.plan(0);
            for (int place = 0; place < 30; place++) {
                Due.is("place " + place, tool.planned(place), place < 12 ? 18 + place : place - 12);
            }
        });
        Sentences.test("Returns the number of the command.", () -> {
            Due.is("the order", Tools.orderOf(States.underWay()), "2 4 0 1 3");
        });
        Sentences.test("Throws `IllegalStateException` if there is no plan", () -> {
            for (int place : new int[] {-1, 0, 5, LOW, HIGH}) {
                Twin.refusesState("place " + place, States::circle, t -> t.planned(place));
                Twin.refusesState("place " + place + ", dropped", States::oldTooLong, t -> t.planned(place));
            }
            Twin.refusesState("a new object", InPlaceDelta::new, t -> t.planned(0));
        });
        Sentences.test("Throws `IndexOutOfBoundsException` if the order has no such place", () -> {
            for (int place : new int[] {-1, 5, 30, LOW, HIGH}) {
                Twin.refusesIndex("place " + place, States::underWay, t -> t.planned(place));
            }
            InPlaceDelta empty = new InPlaceDelta();
            empty.plan(0);
            Due.throwsIndex("an order without places", () -> empty.planned(0));
            InPlaceDelta thirty = States.twelveCopies();
            thirty.plan(0);
            Due.throwsIndex("30 of 30", () -> thirty.planned(30));
            InPlaceDelta shorter = States.underWay();
            shorter.clear(1);
            shorter.make();
            shorter.plan(0);
            Due.throwsIndex("a place of the former plan", () -> shorter.planned(0));
        });
    }

    private static void converted() {
        Sentences.from("Promise 12");
        Sentences.test("Returns the converted COPY commands of the plan.", () -> {
            Twin.changesNothing("COPY 0", States::underWay, t -> t.converted(), 1);
        });
        Sentences.test("Returns a bit set of commands.", () -> {
            InPlaceDelta last = States.afterAdds(42, 40, 1, 40, 42, 1);
            last.plan(0);
            Due.is("command 28", last.converted(), 1 << 28);
            InPlaceDelta very = States.afterAdds(44, 40, 2, 40, 44, 1);
            very.plan(1);
            Due.is("command 29", very.converted(), 1 << 29);
            InPlaceDelta none = States.twelveCopies();
            none.plan(0);
            Due.is("none", none.converted(), 0);
            InPlaceDelta six = sixSwaps();
            six.plan(0);
            Due.is("0, 2, 4, 6, 8 and 10", six.converted(), 0b010101010101);
        });
        Sentences.test("Throws `IllegalStateException` if there is no plan", () -> {
            Twin.refusesState("before plan", States::circle, t -> t.converted());
            Twin.refusesState("dropped", States::oldTooLong, t -> t.converted());
            Twin.refusesState("a new object", InPlaceDelta::new, t -> t.converted());
        });
    }

    private static void loss() {
        Sentences.from("Promise 13");
        Sentences.test("Returns the loss of the plan.", () -> {
            Twin.changesNothing("COPY 0", States::underWay, t -> t.loss(), 5);
        });
        Sentences.test("Returns the loss.", () -> {
            InPlaceDelta six = sixSwaps();
            six.plan(0);
            Due.is("six of length 1", six.loss(), 6);
            InPlaceDelta none = States.twelveCopies();
            none.plan(1);
            Due.is("none", none.loss(), 0);
            InPlaceDelta most = behindAPair();
            most.plan(0);
            Due.is("ten of length 1 and one of 11", most.loss(), 21);
            most.plan(1);
            Due.is("eleven of length 1", most.loss(), 11);
            most.plan(2);
            Due.is("one of 11", most.loss(), 11);
        });
        Sentences.test("Throws `IllegalStateException` if there is no plan", () -> {
            Twin.refusesState("before plan", States::circle, t -> t.loss());
            Twin.refusesState("dropped", States::oldTooLong, t -> t.loss());
            Twin.refusesState("a new object", InPlaceDelta::new, t -> t.loss());
        });
    }

    private static void leastLoss() {
        Sentences.from("Promise 14");
        Sentences.test("Returns the least loss with which the COPY commands of the delta can be put into an order "
                + "without a conflict, whichever of them are converted.", () -> {
            Twin.changesNothing("a circle", States::underWay, t -> t.leastLoss(), 5);
            // COPY 2 (length 4) in a cycle with 0 and in one with 1, of length 2 each.
            InPlaceDelta two = Tools.ofCopies(20, 10, 0, 2, 13, 2, 2, 0, 10, 4);
            two.plan(2);
            Due.is("policy 2 converts the hub", two.loss(), 4);
            Due.is("which is as much as both of the others", two.leastLoss(), 4);
            Due.is("a longer hub", Tools.ofCopies(20, 10, 0, 2, 14, 2, 2, 0, 10, 5).leastLoss(), 4);
            Due.is("a shorter hub", Tools.ofCopies(20, 10, 0, 2, 12, 2, 2, 1, 10, 3).leastLoss(), 3);
            // Policy 1 converts 0 first, which is the shortest, but in no cycle.
            InPlaceDelta behind = Tools.ofCopies(20, 15, 10, 1, 10, 0, 3, 0, 12, 3);
            behind.plan(1);
            Due.is("policy 1 loses more", behind.loss(), 4);
            Due.is("than is needed", behind.leastLoss(), 3);
        });
        Sentences.test("Returns the least sum of the lengths of COPY commands whose conversion leaves the others "
                + "without a cycle.", () -> {
            Due.is("no commands", new InPlaceDelta().leastLoss(), 0);
            Due.is("no COPY", States.thirtyAdds().leastLoss(), 0);
            Due.is("no conflict", States.twelveCopies().leastLoss(), 0);
            Due.is("a COPY over itself", Tools.ofCopies(10, 0, 1, 9).leastLoss(), 0);
            Due.is("a chain", Tools.ofCopies(20, 4, 0, 2, 0, 6, 2, 6, 8, 2).leastLoss(), 0);
            Due.is("a pair", Tools.ofCopies(20, 4, 0, 3, 0, 4, 2).leastLoss(), 2);
            Due.is("a pair, the other way round", Tools.ofCopies(20, 0, 4, 2, 4, 0, 3).leastLoss(), 2);
            Due.is("six pairs", sixSwaps().leastLoss(), 6);
            Due.is("one of a pair before ten others", behindAPair().leastLoss(), 1);
            Due.is("the last commands", States.afterAdds(42, 40, 1, 40, 42, 1).leastLoss(), 1);
            Due.is("32 of 64", Tools.ofCopies(64, 32, 0, 32, 0, 32, 32).leastLoss(), 32);
            InPlaceDelta tool = States.underWay();
            tool.clear(0);
            tool.clear(1);
            Due.is("the versions do not matter", tool.leastLoss(), 5);
            tool.make();
            Due.is("a new delta", tool.leastLoss(), 0);
            tool.undo();
            Due.is("the former one again", tool.leastLoss(), 5);
        });
    }
}

/** The paragraph "Plans" of "Description", sentence by sentence; COPY commands are given by source, target, length. */
final class PolicySentences {
    private PolicySentences() {
    }

    static void run() {
        Sentences.from("Description, Plans");
        order();
        next();
        conversion();
        policies();
        policyTwo();
        lossAndLife();
    }

    private static void planOf(InPlaceDelta tool, int policy, String order, int set) {
        Due.is("policy " + policy + ", number", tool.plan(policy), Integer.bitCount(set));
        Due.is("policy " + policy + ", order", Tools.orderOf(tool), order);
        Due.is("policy " + policy + ", set", tool.converted(), set);
    }

    private static void planOfEachPolicy(InPlaceDelta tool, String order, int set) {
        for (int policy = 0; policy <= 2; policy++) {
            planOf(tool, policy, order, set);
        }
    }

    private static int set(int... commands) {
        int set = 0;
        for (int command : commands) {
            set |= 1 << command;
        }
        return set;
    }

    private static void order() {
        Sentences.test("A plan says which COPY commands are converted and in which order the commands are carried out.",
                () -> {
            InPlaceDelta tool = States.circle();
            planOf(tool, 0, "2 4 0 1 3", set(0));
            tool.begin();
            tool.step();
            Due.is("command 2 is the first", Tools.workOf(tool), "abcde.klmno.klmno");
        });
        Sentences.test("A converted COPY is carried out like an ADD of the bytes that the old version has at the "
                + "positions that it reads.", () -> {
            InPlaceDelta tool = Tools.ofCopies(8, 4, 0, 4, 0, 4, 4);
            tool.plan(0);
            tool.begin();
            tool.step();
            Due.is("the work has those bytes no more", Tools.workOf(tool), "01230123");
            tool.step();
            Due.is("they come from the old version", Tools.workOf(tool), "45670123");
        });
        Sentences.test("First come the COPY commands that are not converted, then all other commands (ADD commands and "
                + "converted COPY commands) in ascending order of their numbers.", () -> {
            // ADD 0, COPY 1 and 4 in a cycle, ADD 2, COPY 3 free, ADD 5.
            InPlaceDelta tool = Tools.ofDecoded(Tools.letters(20), 73, 20, 20, 6, 2, 19, 1, 65, 1, 4, 0, 2,
                    2, 18, 1, 66, 1, 10, 12, 1, 1, 0, 4, 3, 2, 17, 1, 67);
            planOf(tool, 0, "3 4 0 1 2 5", set(1));
            planOf(tool, 1, "3 4 0 1 2 5", set(1));
            InPlaceDelta adds = Tools.ofDecoded("", 73, 0, 9, 3, 2, 8, 1, 1, 2, 4, 1, 2, 2, 0, 1, 3);
            planOfEachPolicy(adds, "0 1 2", 0);
            planOfEachPolicy(Tools.ofCopies(20, 0, 10, 2, 2, 12, 2, 4, 14, 2), "0 1 2", 0);
            planOfEachPolicy(new InPlaceDelta(), "", 0);
        });
    }

    private static void next() {
        Sentences.test("The order of the COPY commands is built like this: the next one is the COPY with the lowest "
                + "number that is neither placed nor converted and that no other such COPY must precede.", () -> {
            // 2 must precede 0; as soon as it is placed, 0 is lower than 3, which has been free all the time.
            planOfEachPolicy(Tools.ofCopies(20, 10, 0, 2, 11, 13, 1, 0, 15, 1, 10, 17, 1), "1 2 0 3", 0);
            // A chain: 3 before 2 before 1 before 0.
            planOfEachPolicy(Tools.ofCopies(20, 4, 0, 2, 0, 6, 2, 6, 8, 2, 8, 10, 2), "3 2 1 0", 0);
            // Placed ones hinder no more: 0 before 1 before 2.
            planOfEachPolicy(Tools.ofCopies(20, 4, 0, 2, 6, 4, 2, 8, 6, 2), "0 1 2", 0);
            // Converted ones hinder no more: 0 in a cycle with 1 must precede 2, too.
            planOf(Tools.ofCopies(20, 4, 0, 4, 0, 4, 2, 10, 6, 2), 0, "1 2 0", set(0));
        });
        Sentences.test("If there are COPY commands left, but none of them can be next, one of them is converted",
                () -> {
            // COPY 2 is free, so it is placed before anything is converted, and 0 and 1 are in a cycle.
            planOfEachPolicy(Tools.ofCopies(20, 4, 0, 3, 0, 4, 3, 10, 12, 1), "2 1 0", set(0));
            // 0 is in no cycle, but 1, which is in one with 2, must precede it: it is one of those that are left.
            planOf(Tools.ofCopies(20, 15, 10, 1, 10, 0, 3, 0, 12, 3), 0, "2 0 1", set(0, 1));
            // 0 is in no cycle, but 1, which is in one with 2, and 3, which is in one with 4, must precede it.
            InPlaceDelta behind = Tools.ofCopies(60, 50, 30, 4, 29, 10, 2, 10, 29, 1, 33, 15, 2, 15, 34, 1);
            planOf(behind, 2, "2 4 0 1 3", set(0, 1, 3));
            // No COPY is left and no conversion needed: the ADD commands wait for nothing.
            planOfEachPolicy(Tools.ofDecoded("ab", 73, 2, 2, 2, 2, 0, 1, 7, 1, 0, 1, 1), "1 0", 0);
            // One conversion at a time: two cycles, 0 with 3 and 1 with 2.
            planOfEachPolicy(Tools.ofCopies(20, 15, 0, 2, 12, 5, 2, 5, 12, 2, 0, 15, 2), "3 2 0 1", set(0, 1));
        });
    }

    private static void conversion() {
        Sentences.test("with the policy 0 the one with the lowest number", () -> {
            planOf(Tools.ofCopies(20, 4, 0, 3, 0, 4, 1), 0, "1 0", set(0));
            planOf(Tools.ofCopies(20, 0, 4, 1, 4, 0, 3), 0, "1 0", set(0));
            // Neither length nor number of conflicts counts: 2 is the shortest and in a cycle with 0 and with 1.
            planOf(Tools.ofCopies(20, 10, 0, 3, 10, 3, 3, 2, 10, 2), 0, "2 0 1", set(0, 1));
        });
        Sentences.test("with the policy 1 the one with the smallest length, the lowest number of equal ones", () -> {
            planOf(Tools.ofCopies(20, 4, 0, 3, 0, 4, 2), 1, "0 1", set(1));
            planOf(Tools.ofCopies(20, 4, 0, 2, 0, 4, 3), 1, "1 0", set(0));
            planOf(Tools.ofCopies(20, 4, 0, 3, 0, 4, 3), 1, "1 0", set(0));
            // A cycle 0, 1, 2 in which 1 and 2 have the same length.
            planOf(Tools.ofCopies(20, 4, 0, 3, 8, 4, 2, 0, 8, 2), 1, "2 0 1", set(1));
            // 2 is the shortest and in no cycle; 0, which is in one with 1, must precede it.
            planOf(Tools.ofCopies(20, 4, 0, 3, 0, 4, 2, 9, 6, 1), 1, "0 1 2", set(1, 2));
        });
    }

    private static void policies() {
        Sentences.test("with the policy 2 the one that must be carried out before or after the greatest number of the "
                + "others that are left", () -> {
            // 2 is in a cycle with 0 and in one with 1: it has two, they have one each.
            planOf(Tools.ofCopies(20, 10, 0, 3, 12, 3, 3, 2, 10, 3), 2, "0 1 2", set(2));
            // The cycle 0, 1, 2; 2 must also precede 3: only the one behind it makes its number the greatest.
            planOf(Tools.ofCopies(20, 6, 0, 2, 4, 6, 2, 1, 4, 2, 15, 2, 1), 2, "0 1 3 2", set(2));
            // The cycle 0, 1, 2; 3 must precede 2, but is in a cycle with 4, so that it is left, too.
            planOf(Tools.ofCopies(30, 4, 0, 2, 8, 4, 2, 0, 8, 3, 10, 14, 2, 15, 11, 1), 2, "0 1 4 2 3", set(2, 3));
        });
        Sentences.test("of the others that are left", () -> {
            // 0 and 1 in a cycle; 2 and 3 must precede 1, but are free and so placed before: one each is left.
            planOf(Tools.ofCopies(30, 10, 0, 2, 0, 10, 4, 12, 20, 1, 13, 21, 1), 2, "2 3 1 0", set(0));
            // 2 is in cycles with 1, 3 and 4 and is converted; then 0 and 1 have one each, 2 does not count for 1.
            planOf(hub(), 2, "3 4 1 0 2", set(0, 2));
        });
    }

    /** COPY 0 and 1 in a cycle; COPY 2 in cycles with 1, with 3 and with 4. */
    private static InPlaceDelta hub() {
        return Tools.ofCopies(40, 10, 19, 1, 19, 10, 3, 12, 20, 5, 22, 13, 1, 24, 15, 1);
    }

    private static void policyTwo() {
        Sentences.test("(each counted once, even if both hold)", () -> {
            // 0 and 1 before one another: one each. 2, 3 and 4 in a circle: two each, so 2 is converted before 0.
            planOf(Tools.ofCopies(40, 4, 0, 2, 0, 4, 2, 14, 10, 2, 18, 14, 2, 10, 18, 2), 2, "3 4 1 0 2", set(0, 2));
            // Both cycles are pairs: one each, and the lowest number is converted first.
            planOf(Tools.ofCopies(40, 14, 10, 2, 10, 14, 2, 4, 0, 2, 0, 4, 2), 2, "1 3 0 2", set(0, 2));
        });
        Sentences.test("with the policy 2 the one that must be carried out before or after the greatest number of the "
                + "others that are left (each counted once, even if both hold), the lowest number of equal ones",
                () -> {
            planOf(Tools.ofCopies(20, 4, 0, 3, 0, 4, 1), 2, "1 0", set(0));
            planOf(Tools.ofCopies(20, 0, 4, 1, 4, 0, 3), 2, "1 0", set(0));
            // Cycles of 0 with 1, of 1 with 2, of 2 with 3: 1 and 2 have two each.
            planOf(Tools.ofCopies(30, 10, 0, 2, 1, 10, 3, 11, 2, 3, 3, 13, 2), 2, "0 3 1 2", set(1, 2));
            // A circle of four: two each.
            planOf(Tools.ofCopies(30, 4, 0, 2, 8, 4, 2, 12, 8, 2, 0, 12, 2), 2, "1 2 3 0", set(0));
        });
    }

    private static void lossAndLife() {
        Sentences.test("The loss of a plan is the sum of the lengths of its converted COPY commands.", () -> {
            InPlaceDelta tool = Tools.ofCopies(40, 4, 0, 3, 0, 4, 2, 20, 10, 5, 10, 20, 6);
            tool.plan(0);
            Due.is("0 and 2", tool.loss(), 3 + 5);
            tool.plan(1);
            Due.is("1 and 2", tool.loss(), 2 + 5);
            InPlaceDelta most = Tools.ofCopies(64, 32, 0, 32, 0, 32, 32);
            most.plan(0);
            Due.is("32 of 64", most.loss(), 32);
            InPlaceDelta none = Tools.ofCopies(20, 0, 10, 2);
            none.plan(0);
            Due.is("none", none.loss(), 0);
        });
        Sentences.test("There is a plan after a call of plan(), until the delta or a version changes", () -> {
            InPlaceDelta tool = States.circle();
            Due.throwsState("not before", () -> tool.loss());
            tool.plan(0);
            Due.is("there is", tool.loss(), 5);
            Twin.dropsPlanAndWork("append to the old version", States::underWay, t -> t.append(0, 1));
            Twin.dropsPlanAndWork("append to the new version", States::underWay, t -> t.append(1, 1));
            Twin.dropsPlanAndWork("patch of the old version", States::underWay, t -> t.patch(0, 0, 1));
            Twin.dropsPlanAndWork("patch of the new version", States::underWay, t -> t.patch(1, 0, 1));
            Twin.dropsPlanAndWork("clear of the old version", States::underWay, t -> t.clear(0));
            Twin.dropsPlanAndWork("clear of the new version", States::underWay, t -> t.clear(1));
            Twin.dropsPlanAndWork("make", States::underWay, t -> t.make());
            Twin.dropsPlanAndWork("decode", States::underWay, t -> t.decode());
            tool.begin();
            tool.step();
            tool.compare();
            tool.digest();
            Due.is("the work does not drop it", tool.loss(), 5);
        });
        Sentences.test("(the code does not matter for it)", () -> {
            InPlaceDelta tool = States.underWay();
            tool.write(1);
            Due.is("write", tool.loss(), 5);
            Due.is("a decode with a fault", tool.decode(), -10 - 29);
            Due.is("the plan is there", tool.loss(), 5);
            tool.clearCode();
            Due.is("clearCode", Tools.orderOf(tool), "2 4 0 1 3");
            tool.encode();
            Due.is("encode", tool.converted(), 1);
            Due.is("the work is there, too", tool.step(), 3);
        });
    }
}

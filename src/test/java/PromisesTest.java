/** The promises one by one: ordinary inputs, the edges that the document names, and wrong inputs. */
final class PromisesTest {
    private static final int LOW = States.LOW;
    private static final int HIGH = States.HIGH;

    public static void main(String[] args) {
        newObject();
        append();
        patch();
        clear();
        byteOf();
        make();
        makeLimits();
        commands();
        command();
        mustPrecede();
        plan();
        policies();
        planned();
        converted();
        loss();
        leastLoss();
        encode();
        write();
        clearCode();
        code();
        decode();
        begin();
        step();
        workByte();
        compare();
        ratio();
        undo();
        undoOfEveryMethod();
        digest();
        Due.end();
    }

    /** Two pairs that swap places and have the lengths 4 and 4, and 6 and 5, with a gap between them. */
    private static InPlaceDelta twoSwaps() {
        return Tools.ofMade("abcdEFGH.0123456789X", "EFGHabcd.6789X012345");
    }

    // ---- 1

    private static void newObject() {
        InPlaceDelta tool = new InPlaceDelta();
        Due.throwsIndex("no old byte", () -> tool.byteOf(0, 0));
        Due.throwsIndex("no new byte", () -> tool.byteOf(1, 0));
        Due.is("no commands", tool.commands(), 0);
        Due.throwsState("no plan", () -> tool.converted());
        Due.is("no code", tool.code(-1), 0);
        Due.throwsState("no work", () -> tool.compare());
        Due.throwsState("nothing saved", () -> tool.undo());
        long hash = 2777;
        for (int i = 0; i < 10; i++) {
            hash = 31 * hash;
        }
        Due.is("digest of ten zeros", tool.digest(), hash);
        Due.is("both lengths of the delta are 0", tool.plan(0), 0);
        tool.encode();
        Due.is("code of the empty delta", Tools.codeOf(tool), "73 0 0 0 73");
    }

    // ---- 2

    private static void append() {
        InPlaceDelta tool = new InPlaceDelta();
        Due.is("the first old byte", tool.append(0, 0), 1);
        Due.is("the second old byte", tool.append(0, 255), 2);
        Due.is("the first new byte", tool.append(1, 7), 1);
        Due.is("old 0", tool.byteOf(0, 0), 0);
        Due.is("old 1", tool.byteOf(0, 1), 255);
        Due.is("new 0", tool.byteOf(1, 0), 7);
        for (int version : new int[] {-1, 2, LOW, HIGH}) {
            Due.throwsArgument("append to version " + version, () -> tool.append(version, 0));
        }
        for (int value : new int[] {-1, 256, LOW, HIGH}) {
            Due.throwsArgument("append of " + value, () -> tool.append(1, value));
            Tools.unchanged("append of " + value, tool, () -> tool.append(1, value));
        }
        for (int i = 3; i <= 64; i++) {
            Due.is("append of byte " + i, tool.append(0, i), i);
        }
        Due.throwsState("a 65th byte", () -> tool.append(0, 1));
        Tools.unchanged("a 65th byte", tool, () -> tool.append(0, 1));
        Due.throwsArgument("a 65th byte that is none", () -> tool.append(0, 256));
        Due.is("the new version has room", tool.append(1, 1), 2);
        planDropped("append to the old version", t -> t.append(0, 1));
        planDropped("append to the new version", t -> t.append(1, 1));
    }

    private interface Use {
        void on(InPlaceDelta tool);
    }

    private static InPlaceDelta atWork() {
        InPlaceDelta tool = States.circle();
        tool.plan(0);
        tool.encode();
        tool.begin();
        return tool;
    }

    private static void planDropped(String what, Use use) {
        InPlaceDelta tool = atWork();
        use.on(tool);
        Due.throwsState(what + " drops the plan", () -> tool.loss());
        Due.throwsState(what + " drops the work", () -> tool.compare());
    }

    private static void planKept(String what, Use use) {
        InPlaceDelta tool = atWork();
        use.on(tool);
        Due.is(what + " keeps the plan", tool.loss(), 5);
        Due.is(what + " keeps the work", tool.workByte(-1), 17);
    }

    // ---- 3

    private static void patch() {
        InPlaceDelta tool = Tools.ofVersions("abc", "d");
        Due.is("patch", tool.patch(0, 1, 255), (int) 'b');
        Due.is("patched", tool.byteOf(0, 1), 255);
        Due.is("its neighbour", tool.byteOf(0, 2), (int) 'c');
        Due.is("patch of the new version", tool.patch(1, 0, 0), (int) 'd');
        Due.is("patch again", tool.patch(1, 0, 9), 0);
        for (int index : new int[] {-1, 3, LOW, HIGH}) {
            Due.throwsIndex("patch at " + index, () -> tool.patch(0, index, 1));
            Due.throwsArgument("patch at " + index + " of no byte", () -> tool.patch(0, index, 256));
            Due.throwsArgument("patch at " + index + " of no version", () -> tool.patch(2, index, 1));
        }
        Due.throwsArgument("patch of no version", () -> tool.patch(-1, 0, 0));
        Due.throwsArgument("patch with -1", () -> tool.patch(0, 0, -1));
        Tools.unchanged("patch with -1", tool, () -> tool.patch(0, 0, -1));
        Tools.unchanged("patch at 3", tool, () -> tool.patch(0, 3, 1));
        planDropped("patch of the old version", t -> t.patch(0, 0, 1));
        planDropped("patch with the same byte", t -> t.patch(1, 0, 'f'));
    }

    // ---- 4

    private static void clear() {
        InPlaceDelta tool = Tools.ofVersions("abc", "de");
        Due.is("clear(0)", tool.clear(0), 3);
        Due.throwsIndex("the old version is empty", () -> tool.byteOf(0, 0));
        Due.is("the new version is not", tool.byteOf(1, 1), (int) 'e');
        Due.is("clear(1)", tool.clear(1), 2);
        Due.is("clear(1) again", tool.clear(1), 0);
        Due.is("an append behind it", tool.append(1, 5), 1);
        Due.throwsArgument("clear(2)", () -> tool.clear(2));
        Due.throwsArgument("clear(-1)", () -> tool.clear(-1));
        Tools.unchanged("clear(2)", tool, () -> tool.clear(2));
        planDropped("clear(0)", t -> t.clear(0));
        planDropped("clear(1)", t -> t.clear(1));
        InPlaceDelta empty = new InPlaceDelta();
        empty.plan(0);
        empty.clear(0);
        Due.throwsState("clear of an empty version drops the plan", () -> empty.loss());
        Due.is("and is undoable", empty.undo(), 1);
        Due.is("undone", empty.loss(), 0);
    }

    // ---- 5

    private static void byteOf() {
        InPlaceDelta tool = Tools.ofVersions("abc", "de");
        Due.is("old 2", tool.byteOf(0, 2), (int) 'c');
        Due.is("new 1", tool.byteOf(1, 1), (int) 'e');
        for (int index : new int[] {-1, 2, LOW, HIGH}) {
            Due.throwsIndex("new " + index, () -> tool.byteOf(1, index));
            Due.throwsArgument("version 2, " + index, () -> tool.byteOf(2, index));
        }
        Due.throwsArgument("version -1", () -> tool.byteOf(-1, 0));
    }

    // ---- 6

    private static void made(String old, String fresh, String commands) {
        InPlaceDelta tool = Tools.ofVersions(old, fresh);
        int count = tool.make();
        Due.is(old + " to " + fresh, Tools.deltaOf(tool), commands);
        Due.is(old + " to " + fresh + ", the number", count, tool.commands());
    }

    private static void make() {
        made("", "", "");
        made("abcd", "", "");
        made("", "abcd", "2 -1 0 4");
        made("abcd", "abcd", "1 0 0 4");
        made("abc", "abc", "2 -1 0 3");
        made("abcd", "xabcdy", "2 -1 0 1; 1 0 1 4; 2 -1 5 1");
        made("abcdXabcd", "abcd", "1 0 0 4");
        made("abcdXabcde", "abcde", "1 5 0 5");
        made("abcdefgh", "efghabcd", "1 4 0 4; 1 0 4 4");
        made("abcdeXbcdef", "abcdef", "1 0 0 5; 2 -1 5 1");
        made("aaaaa", "aaaaaaaaaaa", "1 0 0 5; 1 0 5 5; 2 -1 10 1");
        made("abcXabcd", "abcYabcdabc", "2 -1 0 4; 1 4 4 4; 2 -1 8 3");
        InPlaceDelta tool = Tools.ofMade("abcd", "xabcd");
        tool.clear(1);
        Tools.appendAll(tool, 1, "abcd");
        Due.is("the former delta stays until make", tool.commands(), 2);
        Due.is("make again", tool.make(), 1);
        Due.is("in place of the former delta", Tools.deltaOf(tool), "1 0 0 4");
        planDropped("make", t -> t.make());
        InPlaceDelta other = States.circle();
        other.clear(1);
        Tools.appendAll(other, 1, "XXabcde-fghij");
        other.make();
        Due.is("nothing of the former kinds stays", Tools.deltaOf(other), "2 -1 0 2; 1 0 2 5; 2 -1 7 1; 1 6 8 5");
        Due.is("nor of the former conflicts", !other.mustPrecede(0, 2) && !other.mustPrecede(2, 0));
        Due.is("but there are those of now", other.mustPrecede(3, 1) && !other.mustPrecede(1, 3));
        tool.plan(0);
        tool.encode();
        Due.is("the lengths of the delta", Tools.codeOf(tool), "73 4 4 1 1 0 0 4 87");
    }

    private static void makeLimits() {
        InPlaceDelta full = Tools.ofMade("abcd", "abcd".repeat(13) + "abcd".repeat(3));
        Due.is("12 COPY commands and the rest as one ADD", full.commands(), 13);
        Due.is("the 12th COPY", full.command(11, 0), 1);
        Due.is("the ADD behind it", full.command(12, 0), 2);
        Due.is("its target position", full.command(12, 2), 48);
        Due.is("its length", full.command(12, 3), 16);
        Due.is("the bytes of the ADD", roundTrip(full), "abcd".repeat(16));
        InPlaceDelta gaps = Tools.ofMade("abcd", "-abcd".repeat(12) + "-abc");
        Due.is("12 COPY and 13 ADD commands", gaps.commands(), 25);
        Due.is("gaps", roundTrip(gaps), "-abcd".repeat(12) + "-abc");
        InPlaceDelta long64 = Tools.ofMade("x".repeat(64), "x".repeat(64));
        Due.is("one COPY of 64", Tools.deltaOf(long64), "1 0 0 64");
    }

    private static String roundTrip(InPlaceDelta tool) {
        tool.plan(0);
        Tools.finish(tool);
        return Tools.workOf(tool);
    }

    // ---- 7

    private static void commands() {
        Due.is("no delta", new InPlaceDelta().commands(), 0);
        Due.is("three COPY and two ADD commands", States.circle().commands(), 5);
        InPlaceDelta tool = States.thirtyAdds();
        Due.is("30 commands", tool.commands(), 30);
    }

    // ---- 8

    private static void command() {
        InPlaceDelta tool = Tools.ofMade("0abcd", "xabcd");
        Due.is("an ADD", tool.command(0, 0), 2);
        Due.is("its source position", tool.command(0, 1), InPlaceDelta.NONE);
        Due.is("its target position", tool.command(0, 2), 0);
        Due.is("its length", tool.command(0, 3), 1);
        Due.is("a COPY", tool.command(1, 0), 1);
        Due.is("its source position", tool.command(1, 1), 1);
        Due.is("its target position", tool.command(1, 2), 1);
        Due.is("its length", tool.command(1, 3), 4);
        for (int wrong : new int[] {-1, LOW, HIGH}) {
            Due.throwsIndex("command " + wrong, () -> tool.command(wrong, 0));
            Due.throwsArgument("what " + wrong, () -> tool.command(0, wrong));
            Due.throwsIndex("the index comes first", () -> tool.command(wrong, wrong));
        }
        Due.throwsIndex("command 2", () -> tool.command(2, 0));
        Due.throwsArgument("what 4", () -> tool.command(0, 4));
    }

    // ---- 9

    private static void mustPrecede() {
        InPlaceDelta tool = States.circle();
        Due.is("0 reads 6 to 10, 2 writes 6 to 10", tool.mustPrecede(0, 2));
        Due.is("2 reads 12 to 16, 0 writes 0 to 4", !tool.mustPrecede(2, 0));
        Due.is("2 before 4", tool.mustPrecede(2, 4));
        Due.is("4 before 0", tool.mustPrecede(4, 0));
        Due.is("not 0 before 4", !tool.mustPrecede(0, 4));
        InPlaceDelta same = Tools.ofMade("abcdefgh", "Xabcdefgh");
        Due.is("a COPY does not precede itself", !same.mustPrecede(1, 1));
        Due.is("an ADD is never before a COPY", !same.mustPrecede(0, 1));
        Due.is("a COPY need not be before an ADD", !same.mustPrecede(1, 0));
        // 0 reads 4 to 5; 1 writes 6, 2 writes 5, 3 writes 3, 4 writes 4.
        InPlaceDelta edges = Tools.ofDecoded("", 73, 9, 9, 5,
                1, 4, 0, 2, 1, 0, 6, 1, 1, 0, 5, 1, 1, 0, 3, 1, 1, 0, 4, 1);
        Due.is("just behind", !edges.mustPrecede(0, 1));
        Due.is("the last byte", edges.mustPrecede(0, 2));
        Due.is("just before", !edges.mustPrecede(0, 3));
        Due.is("the first byte", edges.mustPrecede(0, 4));
        Due.is("a later COPY that reads what 0 writes", edges.mustPrecede(1, 0));
        for (int wrong : new int[] {-1, 5, LOW, HIGH}) {
            Due.throwsIndex("i is " + wrong, () -> tool.mustPrecede(wrong, 0));
            Due.throwsIndex("j is " + wrong, () -> tool.mustPrecede(0, wrong));
            Due.throwsIndex("both are " + wrong, () -> tool.mustPrecede(wrong, wrong));
        }
    }

    // ---- 10

    private static void plan() {
        InPlaceDelta tool = States.circle();
        for (int policy = 0; policy <= 2; policy++) {
            Due.is("a circle with policy " + policy, tool.plan(policy), 1);
        }
        for (int policy : new int[] {-1, 3, LOW, HIGH}) {
            Due.throwsArgument("policy " + policy, () -> tool.plan(policy));
            Tools.unchanged("policy " + policy, tool, () -> tool.plan(policy));
        }
        tool.begin();
        tool.plan(0);
        Due.throwsState("plan drops the work", () -> tool.compare());
        tool.append(0, 1);
        Due.throwsState("the old version is longer than the source length", () -> tool.plan(0));
        Due.throwsArgument("the policy comes first", () -> tool.plan(3));
        Tools.unchanged("plan", tool, () -> tool.plan(0));
        tool.undo();
        tool.clear(1);
        Due.is("the length of the new version does not matter", tool.plan(0), 1);
        tool.patch(0, 0, 1);
        Due.is("nor do the bytes of the old one", tool.plan(0), 1);
        InPlaceDelta chain = Tools.ofMade("abcdefghijkl", "XXXXabcdefgh");
        Due.is("a chain needs no conversion", chain.plan(0), 0);
        // 2 must precede 0; as soon as it is placed, 0 is lower than 3, which has been free all the time.
        InPlaceDelta order = Tools.ofDecoded("000000000000", 73, 12, 12, 4,
                1, 6, 0, 2, 2, 4, 1, 65, 1, 0, 5, 1, 1, 11, 8, 1);
        order.plan(0);
        Due.is("lowest free COPY first, ADD at the end", Tools.orderOf(order), "2 0 3 1");
        planKept("write", t -> t.write(1));
        planKept("clearCode", t -> t.clearCode());
        planKept("encode", t -> t.encode());
    }

    private static void planOf(InPlaceDelta tool, int policy, String order, int set, int loss) {
        Due.is("policy " + policy + ": number", tool.plan(policy), Integer.bitCount(set));
        Due.is("policy " + policy + ": order", Tools.orderOf(tool), order);
        Due.is("policy " + policy + ": set", tool.converted(), set);
        Due.is("policy " + policy + ": loss", tool.loss(), loss);
    }

    private static void policies() {
        InPlaceDelta star = States.star();
        planOf(star, 0, "4 0 1 2 3", 1 + 8, 5);
        planOf(star, 1, "0 1 2 3 4", 8 + 16, 3);
        planOf(star, 2, "0 4 1 2 3", 8, 2);
        // A free COPY goes first, whatever its number and length.
        InPlaceDelta free = Tools.ofDecoded("0123456789", 73, 10, 10, 3,
                1, 4, 0, 3, 1, 0, 4, 3, 1, 9, 3, 1);
        planOf(free, 0, "2 1 0", 1, 3);
        planOf(free, 1, "2 1 0", 1, 3);
        planOf(free, 2, "2 1 0", 1, 3);
        // 2 must come behind 0, which is in a cycle with 1: 2 cannot be next and is the shortest.
        InPlaceDelta late = Tools.ofDecoded("0123456789", 73, 10, 10, 3,
                1, 4, 0, 3, 1, 0, 4, 2, 1, 9, 6, 1);
        Due.is("0 before 2", late.mustPrecede(0, 2));
        planOf(late, 0, "1 2 0", 1, 3);
        planOf(late, 1, "0 1 2", 6, 3);
        planOf(late, 2, "1 2 0", 1, 3);
        // The cycle 2, 0, 1; 2 must also precede 3: only the count of those behind it makes it the greatest.
        InPlaceDelta before = Tools.ofDecoded("0123456789", 73, 10, 10, 4,
                1, 6, 0, 2, 1, 4, 6, 2, 1, 1, 4, 2, 1, 9, 2, 1);
        planOf(before, 0, "1 2 3 0", 1, 2);
        planOf(before, 2, "0 1 3 2", 4, 2);
        InPlaceDelta swaps = twoSwaps();
        Due.is("two swaps", Tools.deltaOf(swaps), "1 4 0 4; 1 0 4 4; 2 -1 8 1; 1 15 9 5; 1 9 14 6");
        planOf(swaps, 0, "1 4 0 2 3", 9, 9);
        planOf(swaps, 1, "1 4 0 2 3", 9, 9);
        planOf(swaps, 2, "1 4 0 2 3", 9, 9);
    }

    // ---- 11

    private static void planned() {
        InPlaceDelta tool = States.circle();
        Due.throwsState("no plan", () -> tool.planned(0));
        Due.throwsState("no plan comes first", () -> tool.planned(-1));
        tool.plan(0);
        Due.is("the order", Tools.orderOf(tool), "2 4 0 1 3");
        for (int place : new int[] {-1, 5, LOW, HIGH}) {
            Due.throwsIndex("place " + place, () -> tool.planned(place));
        }
        InPlaceDelta empty = new InPlaceDelta();
        empty.plan(0);
        Due.throwsIndex("an order without places", () -> empty.planned(0));
    }

    // ---- 12

    private static void converted() {
        InPlaceDelta tool = States.circle();
        Due.throwsState("no plan", () -> tool.converted());
        tool.plan(0);
        Due.is("COPY 0", tool.converted(), 1);
        InPlaceDelta late = States.afterAdds(42, 40, 1, 40, 42, 1);
        late.plan(2);
        Due.is("the numbers are those of the commands", late.converted(), 1 << 28);
        InPlaceDelta none = Tools.ofMade("abcd", "abcd");
        none.plan(0);
        Due.is("none", none.converted(), 0);
    }

    // ---- 13

    private static void loss() {
        InPlaceDelta tool = twoSwaps();
        Due.throwsState("no plan", () -> tool.loss());
        tool.plan(1);
        Due.is("4 and 5", tool.loss(), 9);
        tool.plan(0);
        Due.is("4 and 5 by number", tool.loss(), 9);
        InPlaceDelta none = Tools.ofMade("abcd", "abcd");
        none.plan(0);
        Due.is("none", none.loss(), 0);
    }

    // ---- 14

    private static void leastLoss() {
        Due.is("no commands", new InPlaceDelta().leastLoss(), 0);
        Due.is("a circle", States.circle().leastLoss(), 5);
        Due.is("two swaps", twoSwaps().leastLoss(), 9);
        Due.is("a chain", Tools.ofMade("abcdefghijkl", "XXXXabcdefgh").leastLoss(), 0);
        Due.is("a COPY over itself", Tools.ofMade("abcdefgh", "Xabcdefgh").leastLoss(), 0);
        Due.is("the one between two cycles", hub(3).leastLoss(), 3);
        Due.is("the two beside it", hub(5).leastLoss(), 4);
        // 1 is short and in a cycle with 0, which policy 0 converts.
        InPlaceDelta best = Tools.ofDecoded("01234567890", 73, 11, 11, 3,
                1, 5, 0, 5, 1, 4, 5, 1, 1, 5, 6, 5);
        best.plan(0);
        Due.is("policy 0 loses more", best.loss(), 5);
        Due.is("than is needed", best.leastLoss(), 1);
        InPlaceDelta versions = States.circle();
        versions.clear(0);
        Due.is("the versions do not matter", versions.leastLoss(), 5);
        versions.make();
        Due.is("a new delta", versions.leastLoss(), 0);
        versions.undo();
        Due.is("the former one again", versions.leastLoss(), 5);
    }

    /** Two COPY commands of length 2, each in a cycle with a third one of the length. */
    private static InPlaceDelta hub(int length) {
        return Tools.ofDecoded("", 73, 20, 20, 3, 1, 10, 0, 2, 1, 11, 2, 2, 1, length == 3 ? 1 : 0, 10, length);
    }

    // ---- 15

    private static void encode() {
        InPlaceDelta tool = Tools.ofMade("abcd", "xabcd");
        Due.throwsState("no plan", () -> tool.encode());
        Tools.unchanged("encode without a plan", tool, () -> tool.encode());
        tool.plan(0);
        tool.write(9);
        Due.is("length", tool.encode(), 13);
        Due.is("in the order of the plan, in place of the former code", Tools.codeOf(tool),
                "73 4 5 2 1 0 1 4 2 0 1 120 " + (73 + 4 + 5 + 2 + 1 + 0 + 1 + 4 + 2 + 0 + 1 + 120));
        InPlaceDelta swap = Tools.ofMade("abcdEFGH", "EFGHabcd");
        swap.plan(0);
        swap.encode();
        int sum = 73 + 8 + 8 + 2 + 1 + 0 + 4 + 4 + 2 + 0 + 4 + 'E' + 'F' + 'G' + 'H';
        Due.is("a converted COPY is an ADD", Tools.codeOf(swap),
                "73 8 8 2 1 0 4 4 2 0 4 69 70 71 72 " + sum % 251);
        Due.is("what is encoded can be decoded", swap.decode(), 2);
        Due.is("as a COPY and an ADD", Tools.deltaOf(swap), "1 0 4 4; 2 -1 0 4");
        InPlaceDelta longest = States.thirtyAdds();
        Tools.appendAll(longest, 1, "x");
        longest.plan(0);
        Due.is("the longest code that there is", longest.encode(), 5 + 30 * 3 + 64);
    }

    // ---- 16

    private static void write() {
        InPlaceDelta tool = new InPlaceDelta();
        Due.is("the first byte", tool.write(0), 1);
        Due.is("the second byte", tool.write(255), 2);
        Due.is("code", Tools.codeOf(tool), "0 255");
        for (int value : new int[] {-1, 256, LOW, HIGH}) {
            Due.throwsArgument("write of " + value, () -> tool.write(value));
            Tools.unchanged("write of " + value, tool, () -> tool.write(value));
        }
        for (int i = 3; i <= 200; i++) {
            Due.is("byte " + i, tool.write(i), i);
        }
        Due.throwsState("a 201st byte", () -> tool.write(1));
        Due.throwsArgument("a 201st byte that is none", () -> tool.write(256));
        Tools.unchanged("a 201st byte", tool, () -> tool.write(1));
        Due.is("undo of the 200th", tool.undo(), 3);
        Due.is("the length then", tool.code(-1), 199);
    }

    // ---- 17

    private static void clearCode() {
        InPlaceDelta tool = new InPlaceDelta();
        Due.is("an empty code", tool.clearCode(), 0);
        Due.is("it is undoable all the same", tool.undo(), 0);
        Tools.writeAll(tool, 1, 2, 3);
        Due.is("three bytes", tool.clearCode(), 3);
        Due.is("they are gone", tool.code(-1), 0);
        Due.is("a byte behind it", tool.write(7), 1);
        Due.is("the byte", tool.code(0), 7);
    }

    // ---- 18

    private static void code() {
        InPlaceDelta tool = new InPlaceDelta();
        Due.is("length 0", tool.code(-1), 0);
        Due.is("no byte 0", tool.code(0), InPlaceDelta.NONE);
        Tools.writeAll(tool, 11, 0);
        Due.is("length 2", tool.code(-1), 2);
        Due.is("byte 0", tool.code(0), 11);
        Due.is("byte 1", tool.code(1), 0);
        Due.is("no byte 2", tool.code(2), InPlaceDelta.NONE);
        Due.is("no byte 200", tool.code(200), InPlaceDelta.NONE);
        Due.is("no byte far away", tool.code(HIGH), InPlaceDelta.NONE);
        Due.throwsArgument("index -2", () -> tool.code(-2));
        Due.throwsArgument("the lowest index", () -> tool.code(LOW));
    }

    // ---- 19; its faults are in DecodingSentences

    private static void decode() {
        InPlaceDelta tool = States.circle();
        tool.plan(0);
        tool.encode();
        tool.begin();
        Due.is("decode", tool.decode(), 5);
        Due.is("the delta is that of the code", Tools.deltaOf(tool),
                "1 12 6 5; 1 0 12 5; 2 -1 0 5; 2 -1 5 1; 2 -1 11 1");
        Due.throwsState("the plan is dropped", () -> tool.loss());
        Due.throwsState("the work is dropped", () -> tool.compare());
        Due.is("the code stays", tool.code(-1), 4 + 4 + 4 + 8 + 4 + 4 + 1);
        Due.is("its delta needs no conversion", tool.plan(0), 0);
        Tools.finish(tool);
        Due.is("it makes the new version", tool.compare(), InPlaceDelta.NONE);
        Due.is("the same code again", tool.decode(), 5);
        tool.write(0);
        Due.is("a fault", tool.decode(), -10 - 29);
        tool.clearCode();
        Tools.writeAll(tool, 73, 1, 1, 1, 2, 0, 1, 9, 88);
        Due.is("another code behind a fault", tool.decode(), 1);
        Due.is("the delta of the other code", Tools.deltaOf(tool), "2 -1 0 1");
        InPlaceDelta lengths = Tools.ofDecoded("abc", 73, 4, 2, 0);
        Due.throwsState("the source length is that of the code", () -> lengths.plan(0));
        lengths.append(0, 'd');
        lengths.plan(0);
        lengths.begin();
        Due.is("the target length too", Tools.workOf(lengths), "ab");
    }

    // ---- 20

    private static void begin() {
        InPlaceDelta tool = Tools.ofMade("abcd", "xabcdyz");
        Due.throwsState("no plan", () -> tool.begin());
        Tools.unchanged("begin without a plan", tool, () -> tool.begin());
        tool.plan(0);
        Due.is("three commands", tool.begin(), 3);
        Due.is("zeros behind the old version", Tools.workOf(tool), "abcd\0\0\0");
        tool.step();
        Due.is("a work in place of the former one", tool.begin(), 3);
        Due.is("begun anew", Tools.workOf(tool), "abcd\0\0\0");
        InPlaceDelta shorter = Tools.ofMade("abcdefgh", "efgh");
        shorter.plan(0);
        Due.is("one command", shorter.begin(), 1);
        Due.is("not cut yet", Tools.workOf(shorter), "abcdefgh");
        InPlaceDelta longer = Tools.ofDecoded("ab", 73, 2, 4, 0);
        longer.plan(0);
        Due.is("no commands", longer.begin(), 0);
        Due.is("zeros without commands", Tools.workOf(longer), "ab\0\0");
        InPlaceDelta cut = Tools.ofDecoded("abcd", 73, 4, 2, 0);
        cut.plan(0);
        cut.begin();
        Due.is("cut at the beginning", Tools.workOf(cut), "ab");
    }

    // ---- 21

    private static void step() {
        InPlaceDelta tool = States.circle();
        Due.throwsState("no work", () -> tool.step());
        tool.plan(0);
        Due.throwsState("a plan is no work", () -> tool.step());
        tool.begin();
        Due.is("four are left", tool.step(), 4);
        Due.is("COPY 2 from 12 to 6", Tools.workOf(tool), "abcde.klmno.klmno");
        Due.is("three are left", tool.step(), 3);
        Due.is("COPY 4 from 0 to 12", Tools.workOf(tool), "abcde.klmno.abcde");
        Due.is("two are left", tool.step(), 2);
        Due.is("the converted COPY 0 has the old bytes", Tools.workOf(tool), "fghij.klmno.abcde");
        Due.is("one is left", tool.step(), 1);
        Due.is("the ADD 1", Tools.workOf(tool), "fghij-klmno.abcde");
        Due.is("none is left", tool.step(), 0);
        Due.is("the ADD 3", Tools.workOf(tool), "fghij-klmno-abcde");
        Due.throwsState("no command is left", () -> tool.step());
        Tools.unchanged("step at the end", tool, () -> tool.step());
        InPlaceDelta dropped = atWork();
        dropped.patch(1, 0, 1);
        Due.throwsState("a dropped work is no work", () -> dropped.step());
        InPlaceDelta right = Tools.ofMade("abcdefgh", "XXabcdefgh");
        Due.is("a COPY to the right over itself", roundTrip(right), "XXabcdefgh");
        InPlaceDelta left = Tools.ofMade("XXabcdefgh", "abcdefgh");
        Due.is("a COPY to the left over itself, then the cut", roundTrip(left), "abcdefgh");
        InPlaceDelta holes = Tools.ofDecoded("abcdefgh", 73, 8, 10, 2, 2, 1, 2, 'X', 'Y', 1, 0, 5, 1);
        holes.plan(0);
        holes.begin();
        Due.is("the COPY comes first", holes.step(), 1);
        Due.is("its byte", Tools.workOf(holes), "abcdeagh\0\0");
        holes.step();
        Due.is("positions that no command writes keep their bytes", Tools.workOf(holes), "aXYdeagh\0\0");
        InPlaceDelta cut = Tools.ofDecoded("abcdefgh", 73, 8, 3, 2, 1, 6, 0, 1, 2, 1, 1, 'Z');
        cut.plan(0);
        cut.begin();
        cut.step();
        Due.is("not cut before the last command", Tools.workOf(cut), "gbcdefgh");
        cut.step();
        Due.is("cut behind the last command", Tools.workOf(cut), "gZc");
    }

    // ---- 22

    private static void workByte() {
        InPlaceDelta tool = Tools.ofMade("abcd", "abcdx");
        Due.throwsState("no work", () -> tool.workByte(0));
        Due.throwsArgument("the index comes first", () -> tool.workByte(-2));
        tool.plan(0);
        Due.throwsState("a plan is no work", () -> tool.workByte(-1));
        tool.begin();
        Due.is("length", tool.workByte(-1), 5);
        Due.is("byte 0", tool.workByte(0), (int) 'a');
        Due.is("byte 4", tool.workByte(4), 0);
        Due.is("no byte 5", tool.workByte(5), InPlaceDelta.NONE);
        Due.is("no byte far away", tool.workByte(HIGH), InPlaceDelta.NONE);
        Due.throwsArgument("index -2", () -> tool.workByte(-2));
        Due.throwsArgument("the lowest index", () -> tool.workByte(LOW));
    }

    // ---- 23

    private static void compare() {
        InPlaceDelta tool = Tools.ofMade("abcdefgh", "abcdXfgh");
        Due.throwsState("no work", () -> tool.compare());
        tool.plan(0);
        Due.throwsState("a plan is no work", () -> tool.compare());
        tool.begin();
        Due.is("the first difference", tool.compare(), 4);
        tool.step();
        tool.step();
        Due.is("equal", tool.compare(), InPlaceDelta.NONE);
        InPlaceDelta shorter = Tools.ofMade("abcdef", "abcd");
        shorter.plan(0);
        shorter.begin();
        Due.is("the work is longer", shorter.compare(), 4);
        shorter.step();
        Due.is("the work is cut", shorter.compare(), InPlaceDelta.NONE);
        InPlaceDelta longer = Tools.ofDecoded("", 73, 0, 2, 0);
        Tools.appendAll(longer, 1, "\0\0\0");
        longer.plan(0);
        longer.begin();
        Due.is("the new version is longer", longer.compare(), 2);
        InPlaceDelta empty = new InPlaceDelta();
        empty.plan(0);
        empty.begin();
        Due.is("both are empty", empty.compare(), InPlaceDelta.NONE);
        InPlaceDelta none = Tools.ofMade("", "a");
        none.clear(1);
        none.plan(0);
        none.begin();
        Due.is("only the work has a byte", none.compare(), 0);
    }

    // ---- 24

    private static void ratio() {
        InPlaceDelta tool = new InPlaceDelta();
        Due.is("nothing", tool.ratio(), 0.0);
        tool.write(1);
        Due.is("an empty new version", tool.ratio(), 0.0);
        Tools.appendAll(tool, 1, "abc");
        Due.is("1 to 3", tool.ratio(), 1.0 / 3.0);
        Tools.writeAll(tool, 1, 2, 3, 4);
        Due.is("5 to 3", tool.ratio(), 5.0 / 3.0);
        tool.clearCode();
        Due.is("0 to 3", tool.ratio(), 0.0);
        Tools.appendAll(tool, 0, "abcdef");
        Due.is("the old version does not matter", tool.ratio(), 0.0);
    }

    // ---- 25

    private static void undo() {
        InPlaceDelta tool = new InPlaceDelta();
        Due.throwsState("nothing saved", () -> tool.undo());
        for (int i = 0; i < 6; i++) {
            tool.append(0, i);
        }
        for (int i = 3; i >= 0; i--) {
            Due.is("undo", tool.undo(), i);
            int last = i + 1;
            Due.is("a byte that stays", tool.byteOf(0, last), last);
            Due.throwsIndex("a byte that goes", () -> tool.byteOf(0, last + 1));
        }
        Due.throwsState("at most 4 states are saved", () -> tool.undo());
        Due.is("the versions stay then", tool.append(0, 9), 3);
        Due.is("and can be saved again", tool.undo(), 0);
        InPlaceDelta mixed = new InPlaceDelta();
        mixed.write(1);
        mixed.write(2);
        mixed.undo();
        mixed.write(3);
        mixed.write(4);
        Due.is("undo between the calls", mixed.undo(), 2);
        Due.is("what is left", Tools.codeOf(mixed), "1 3");
        mixed.undo();
        Due.is("what is left of it", Tools.codeOf(mixed), "1");
    }

    /** The tool has four saved states before the call, so one less is left behind the undo: the digest's last value. */
    private static void undone(String what, InPlaceDelta tool, Use use) {
        long before = tool.digest();
        use.on(tool);
        Due.is(what + " is undoable", tool.undo(), 3);
        Due.is(what + " is undone", tool.digest(), before - 1);
    }

    private static void undoOfEveryMethod() {
        undone("append", atWork(), t -> t.append(0, 1));
        undone("patch", atWork(), t -> t.patch(1, 0, 1));
        undone("patch with the same byte", States.circle(), t -> t.patch(1, 0, 'f'));
        undone("clear(0)", atWork(), t -> t.clear(0));
        undone("clear(1)", atWork(), t -> t.clear(1));
        undone("make", Tools.ofVersions("abcd", "xabcd"), t -> t.make());
        undone("make with a plan and a work", atWork(), t -> t.make());
        undone("plan", States.circle(), t -> t.plan(1));
        undone("plan with a work", atWork(), t -> t.plan(1));
        undone("encode", atWork(), t -> t.encode());
        undone("write", atWork(), t -> t.write(0));
        undone("clearCode", atWork(), t -> t.clearCode());
        undone("decode", atWork(), t -> t.decode());
        undone("begin", atWork(), t -> t.begin());
        undone("step", atWork(), t -> t.step());
        InPlaceDelta plans = States.star();
        undone("another plan", plans, t -> t.plan(2));
        Due.is("the order of the former plan", Tools.orderOf(plans), "4 0 1 2 3");
        Due.is("its loss", plans.loss(), 5);
        InPlaceDelta again = atWork();
        again.append(1, 1);
        again.undo();
        Due.is("the work that comes back can go on", again.step(), 4);
        InPlaceDelta looks = States.circle();
        looks.plan(0);
        looks.begin();
        looks.byteOf(0, 0);
        looks.commands();
        looks.command(0, 0);
        looks.mustPrecede(0, 1);
        looks.planned(0);
        looks.converted();
        looks.loss();
        looks.leastLoss();
        looks.code(-1);
        looks.workByte(0);
        looks.compare();
        looks.ratio();
        looks.digest();
        looks.undo();
        Due.throwsState("calls that only look save nothing", () -> looks.compare());
        Due.is("only the begin is undone", looks.loss(), 5);
    }

    // ---- 26

    private static void digest() {
        InPlaceDelta tool = Tools.ofMade("abcdEFGH", "EFGHabcdX");
        tool.plan(0);
        tool.encode();
        tool.begin();
        tool.step();
        int[] values = {
            8, 'a', 'b', 'c', 'd', 'E', 'F', 'G', 'H', 9, 'E', 'F', 'G', 'H', 'a', 'b', 'c', 'd', 'X',
            8, 9, 3, 1, 4, 0, 4, 1, 0, 4, 4, 2, -1, 8, 1, 'X', 4,
            1, 1, 0, 2, 1,
            20, 73, 8, 9, 3, 1, 0, 4, 4, 2, 0, 4, 'E', 'F', 'G', 'H', 2, 8, 1, 'X', 0,
            1, 2, 9, 'a', 'b', 'c', 'd', 'a', 'b', 'c', 'd', 0, 4,
        };
        int sum = 73 + 8 + 9 + 3 + 1 + 0 + 4 + 4 + 2 + 0 + 4 + 'E' + 'F' + 'G' + 'H' + 2 + 8 + 1 + 'X';
        int check = 19 + 17 + 5 + 20;
        Due.is("the place of the check byte", values[check], 0);
        values[check] = sum % 251;
        long hash = 2777;
        for (int value : values) {
            hash = 31 * hash + value;
        }
        Due.is("digest of a tool with all parts", tool.digest(), hash);
        Due.is("digest again", tool.digest(), hash);
        InPlaceDelta two = Tools.ofMade("", "AB");
        int[] bytes = {0, 2, 'A', 'B', 0, 2, 1, 2, -1, 0, 2, 'A', 'B', 0, 0, 0, 0, 3};
        hash = 2777;
        for (int value : bytes) {
            hash = 31 * hash + value;
        }
        Due.is("the bytes of an ADD in their order", two.digest(), hash);
    }
}

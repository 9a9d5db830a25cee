/** The paragraph "Exceptions" of "Description": every call that is refused, and the order of exceptions. */
final class ExceptionsSentences {
    private static final int LOW = States.LOW;
    private static final int HIGH = States.HIGH;

    private ExceptionsSentences() {
    }

    static void run() {
        Sentences.from("Description, Exceptions");
        Sentences.test("A call that throws an exception changes nothing.", () -> {
            versions();
            delta();
            plan();
            codeAndWork();
        });
        Sentences.test("If several exceptions apply, the one that is listed first is thrown.", () -> order());
        Sentences.test("NONE is returned only if no exception applies.", () -> none());
    }

    private static void versions() {
        for (int version : new int[] {-1, 2, LOW, HIGH}) {
            Twin.refusesArgument("append to " + version, States::underWay, t -> t.append(version, 0));
            Twin.refusesArgument("patch of " + version, States::underWay, t -> t.patch(version, 0, 0));
            Twin.refusesArgument("clear of " + version, States::underWay, t -> t.clear(version));
            Twin.refusesArgument("byteOf of " + version, States::underWay, t -> t.byteOf(version, 0));
        }
        for (int value : new int[] {-1, 256, LOW, HIGH}) {
            Twin.refusesArgument("append of " + value, States::underWay, t -> t.append(1, value));
            Twin.refusesArgument("patch with " + value, States::underWay, t -> t.patch(0, 0, value));
        }
        for (int index : new int[] {-1, 17, 64, LOW, HIGH}) {
            Twin.refusesIndex("patch at " + index, States::underWay, t -> t.patch(0, index, 0));
            Twin.refusesIndex("byteOf at " + index, States::underWay, t -> t.byteOf(1, index));
        }
        Twin.refusesState("append to a full old version", States::fullVersions, t -> t.append(0, 0));
        Twin.refusesState("append to a full new version", States::fullVersions, t -> t.append(1, 0));
    }

    private static void delta() {
        for (int wrong : new int[] {-1, 5, 30, LOW, HIGH}) {
            Twin.refusesIndex("command " + wrong, States::underWay, t -> t.command(wrong, 0));
            Twin.refusesIndex("mustPrecede, i " + wrong, States::underWay, t -> t.mustPrecede(wrong, 0));
            Twin.refusesIndex("mustPrecede, j " + wrong, States::underWay, t -> t.mustPrecede(0, wrong));
        }
        for (int what : new int[] {-1, 4, LOW, HIGH}) {
            Twin.refusesArgument("what " + what, States::underWay, t -> t.command(0, what));
        }
    }

    private static void plan() {
        for (int policy : new int[] {-1, 3, LOW, HIGH}) {
            Twin.refusesArgument("policy " + policy, States::underWay, t -> t.plan(policy));
        }
        Twin.refusesState("plan with too long an old version", States::oldTooLong, t -> t.plan(0));
        Twin.refusesState("planned without a plan", States::circle, t -> t.planned(0));
        for (int place : new int[] {-1, 5, LOW, HIGH}) {
            Twin.refusesIndex("planned at " + place, States::underWay, t -> t.planned(place));
        }
        Twin.refusesState("converted without a plan", States::circle, t -> t.converted());
        Twin.refusesState("loss without a plan", States::circle, t -> t.loss());
        Twin.refusesState("encode without a plan", States::circle, t -> t.encode());
        Twin.refusesState("encode when the plan is dropped", States::oldTooLong, t -> t.encode());
    }

    private static void codeAndWork() {
        for (int value : new int[] {-1, 256, LOW, HIGH}) {
            Twin.refusesArgument("write of " + value, States::underWay, t -> t.write(value));
        }
        Twin.refusesState("write to a full code", States::fullCode, t -> t.write(0));
        for (int index : new int[] {-2, LOW}) {
            Twin.refusesArgument("code at " + index, States::underWay, t -> t.code(index));
            Twin.refusesArgument("workByte at " + index, States::underWay, t -> t.workByte(index));
        }
        Twin.refusesState("begin without a plan", States::circle, t -> t.begin());
        Twin.refusesState("begin when the plan is dropped", States::oldTooLong, t -> t.begin());
        Twin.refusesState("step without a work", States::circle, t -> t.step());
        Twin.refusesState("step when no command is left", States::atEnd, t -> t.step());
        Twin.refusesState("workByte without a work", States::circle, t -> t.workByte(0));
        Twin.refusesState("compare without a work", States::circle, t -> t.compare());
        Twin.refusesState("undo without a saved state", InPlaceDelta::new, t -> t.undo());
    }

    private static void order() {
        Twin.refusesArgument("append: version, full", States::fullVersions, t -> t.append(2, 0));
        Twin.refusesArgument("append: value, full", States::fullVersions, t -> t.append(0, 256));
        Twin.refusesArgument("append: version, value, full", States::fullVersions, t -> t.append(-1, -1));
        Twin.refusesArgument("patch: version, index", States::underWay, t -> t.patch(2, 64, 0));
        Twin.refusesArgument("patch: index, value", States::underWay, t -> t.patch(0, -1, 256));
        Twin.refusesArgument("patch: all", States::underWay, t -> t.patch(-1, 17, -1));
        Twin.refusesArgument("patch: value, an empty version", InPlaceDelta::new, t -> t.patch(0, 0, 256));
        Twin.refusesArgument("byteOf: version, index", States::underWay, t -> t.byteOf(2, 17));
        Twin.refusesIndex("command: command, what", States::underWay, t -> t.command(5, 4));
        Twin.refusesIndex("command: what, no commands", InPlaceDelta::new, t -> t.command(0, -1));
        Twin.refusesArgument("plan: policy, length", States::oldTooLong, t -> t.plan(3));
        Twin.refusesArgument("plan: policy -1, length", States::oldTooLong, t -> t.plan(-1));
        Twin.refusesState("planned: no plan, place", States::circle, t -> t.planned(5));
        Twin.refusesState("planned: no plan, place -1", States::circle, t -> t.planned(-1));
        Twin.refusesArgument("write: value, full", States::fullCode, t -> t.write(256));
        Twin.refusesArgument("write: value -1, full", States::fullCode, t -> t.write(-1));
        Twin.refusesArgument("workByte: index, no work", States::circle, t -> t.workByte(-2));
    }

    private static void none() {
        Due.is("the source position of an ADD", States.underWay().command(1, 1), InPlaceDelta.NONE);
        Due.throwsIndex("of no command", () -> States.underWay().command(5, 1));
        Due.is("no byte of the code", States.underWay().code(29), InPlaceDelta.NONE);
        Due.throwsArgument("an index that is none", () -> States.underWay().code(-2));
        Due.is("no byte of the work", States.underWay().workByte(17), InPlaceDelta.NONE);
        Due.throwsArgument("an index that is none of the work", () -> States.underWay().workByte(-2));
        Due.throwsState("no byte of no work", () -> States.circle().workByte(17));
        Due.is("no byte that differs", States.atEnd().compare(), InPlaceDelta.NONE);
        Due.throwsState("no work to compare", () -> new InPlaceDelta().compare());
    }
}

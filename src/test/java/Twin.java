/**
 * Two tools with the same calls behind them. One is given a call more; how both go on then tells what the call
 * has changed, in the saved states too, of which the digest has only the number.
 */
final class Twin {
    interface Maker {
        InPlaceDelta make();
    }

    interface Use {
        Object on(InPlaceDelta tool);
    }

    private Twin() {
    }

    static void refusesArgument(String what, Maker maker, Use call) {
        changesNothing(what, maker, call, "throws IllegalArgumentException");
    }

    static void refusesState(String what, Maker maker, Use call) {
        changesNothing(what, maker, call, "throws IllegalStateException");
    }

    static void refusesIndex(String what, Maker maker, Use call) {
        changesNothing(what, maker, call, "throws IndexOutOfBoundsException");
    }

    /** Says what the call answers or throws, and that nothing is changed by it. */
    static void changesNothing(String what, Maker maker, Use call, Object want) {
        InPlaceDelta tool = maker.make();
        InPlaceDelta twin = maker.make();
        Due.is(what, Due.answerOf(() -> call.on(tool)), want);
        Due.is(what + ", the digest behind it", tool.digest(), twin.digest());
        goOn(what, tool, twin);
        InPlaceDelta back = maker.make();
        InPlaceDelta twinBack = maker.make();
        Due.answerOf(() -> call.on(back));
        for (int i = 1; i <= 5; i++) {
            alike(what + ", undo " + i + " behind it", back, twinBack, t -> t.undo());
        }
    }

    private static void goOn(String what, InPlaceDelta tool, InPlaceDelta twin) {
        alike(what + ", step behind it", tool, twin, t -> t.step());
        alike(what + ", write behind it", tool, twin, t -> t.write(7));
        alike(what + ", encode behind it", tool, twin, t -> t.encode());
        alike(what + ", decode behind it", tool, twin, t -> t.decode());
        alike(what + ", plan behind it", tool, twin, t -> t.plan(1));
        alike(what + ", begin behind it", tool, twin, t -> t.begin());
        alike(what + ", append behind it", tool, twin, t -> t.append(0, 1));
        alike(what + ", undo of the append", tool, twin, t -> t.undo());
        alike(what + ", step of the new work", tool, twin, t -> t.step());
    }

    private static void alike(String what, InPlaceDelta tool, InPlaceDelta twin, Use use) {
        Due.is(what, Due.answerOf(() -> use.on(tool)), Due.answerOf(() -> use.on(twin)));
        Due.is(what + ", the digest then", tool.digest(), twin.digest());
    }

    /**
     * Says that the call saves the state from before it, for a maker whose tools have four saved states: the oldest
     * of them is dropped, so from then on the tool has one less than its twin, and that number is the digest's last.
     */
    static void isUndoable(String what, Maker maker, Use call) {
        InPlaceDelta tool = maker.make();
        InPlaceDelta twin = maker.make();
        call.on(tool);
        Due.is(what + ", undo", tool.undo(), 3);
        Due.is(what + ", the state from before it", tool.digest(), twin.digest() - 1);
        for (int left = 2; left >= 0; left--) {
            Due.is(what + ", undo of an earlier call", tool.undo(), left);
            Due.is(what + ", the same on the twin", twin.undo(), left + 1);
            Due.is(what + ", the earlier state", tool.digest(), twin.digest() - 1);
        }
        Due.throwsState(what + ", the oldest state is dropped", () -> tool.undo());
    }

    /** Says that a tool that had a plan and a work has neither behind the call. */
    static void dropsPlanAndWork(String what, Maker maker, Use call) {
        InPlaceDelta tool = maker.make();
        Due.is(what + ", there was a plan", tool.loss() >= 0);
        Due.is(what + ", there was a work", tool.workByte(-1) >= 0);
        call.on(tool);
        Due.throwsState(what + ", planned", () -> tool.planned(0));
        Due.throwsState(what + ", converted", () -> tool.converted());
        Due.throwsState(what + ", loss", () -> tool.loss());
        Due.throwsState(what + ", encode", () -> tool.encode());
        Due.throwsState(what + ", begin", () -> tool.begin());
        Due.throwsState(what + ", step", () -> tool.step());
        Due.throwsState(what + ", workByte", () -> tool.workByte(-1));
        Due.throwsState(what + ", compare", () -> tool.compare());
    }
}

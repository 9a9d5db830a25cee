/** The five examples of the document. */
final class ExamplesTest {
    public static void main(String[] args) {
        decodingOneAdd();
        copyBeforeAdd();
        emptyNewVersion();
        faultOfACode();
        exceptions();
        Due.end();
    }

    private static void decodingOneAdd() {
        InPlaceDelta tool = new InPlaceDelta();
        Due.is("clearCode", tool.clearCode(), 0);
        int[] bytes = {73, 2, 3, 1, 2, 0, 3, 7, 8, 9, 108};
        for (int i = 0; i < bytes.length; i++) {
            Due.is("write", tool.write(bytes[i]), i + 1);
        }
        Due.is("decode", tool.decode(), 1);
        Due.is("commands", tool.commands(), 1);
        Due.is("command(0, 3)", tool.command(0, 3), 3);
        Due.is("leastLoss", tool.leastLoss(), 0);
    }

    private static void copyBeforeAdd() {
        InPlaceDelta tool = new InPlaceDelta();
        for (int i = 0; i < 4; i++) {
            Due.is("append to the old", tool.append(0, 97 + i), i + 1);
        }
        Due.is("append to the new", tool.append(1, 120), 1);
        for (int i = 0; i < 4; i++) {
            Due.is("append to the new", tool.append(1, 97 + i), i + 2);
        }
        Due.is("make", tool.make(), 2);
        Due.is("command(1, 1)", tool.command(1, 1), 0);
        Due.is("command(1, 2)", tool.command(1, 2), 1);
        Due.is("plan(0)", tool.plan(0), 0);
        Due.is("planned(0)", tool.planned(0), 1);
        Due.is("begin", tool.begin(), 2);
        Due.is("step", tool.step(), 1);
    }

    private static void emptyNewVersion() {
        InPlaceDelta tool = new InPlaceDelta();
        Due.is("append", tool.append(0, 97), 1);
        Due.is("append", tool.append(0, 98), 2);
        Due.is("make", tool.make(), 0);
        Due.is("plan(0)", tool.plan(0), 0);
        Due.is("begin", tool.begin(), 0);
        Due.is("workByte(-1)", tool.workByte(-1), 0);
        Due.is("compare", tool.compare(), -1);
    }

    private static void faultOfACode() {
        InPlaceDelta tool = new InPlaceDelta();
        Due.is("clearCode", tool.clearCode(), 0);
        Due.is("write(73)", tool.write(73), 1);
        Due.is("write(1)", tool.write(1), 2);
        Due.is("write(65)", tool.write(65), 3);
        Due.is("decode", tool.decode(), -12);
    }

    private static void exceptions() {
        InPlaceDelta tool = new InPlaceDelta();
        Due.throwsArgument("append(2, 0)", () -> tool.append(2, 0));
        Due.is("plan(0)", tool.plan(0), 0);
        Due.throwsState("step", () -> tool.step());
        Due.is("undo", tool.undo(), 0);
    }
}

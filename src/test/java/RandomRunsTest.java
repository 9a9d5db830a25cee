import java.util.ArrayList;
import java.util.Collections;
import java.util.List;
import java.util.Random;

/** Runs of calls, always the same ones, on the class and on the plain model; every answer and digest must agree. */
final class RandomRunsTest {
    /** The document promises nothing behind the 512th call, and each call here is followed by a digest. */
    private static final int CALLS = 256;
    private static final int RUNS = 400;

    private final Random random;
    private final String run;
    private final InPlaceDelta tool = new InPlaceDelta();
    private final PlainModel model = new PlainModel();
    private int calls = 0;

    private RandomRunsTest(int seed) {
        random = new Random(seed);
        run = "run " + seed;
    }

    public static void main(String[] args) {
        for (int seed = 0; seed < RUNS; seed++) {
            new RandomRunsTest(seed).go();
        }
        Due.end();
    }

    private void go() {
        while (calls < CALLS) {
            switch (random.nextInt(9)) {
                case 0 -> versionsOfBlocks();
                case 1 -> anyCalls(20, true);
                case 2 -> putCode(randomCode());
                case 3 -> putCode(spoiled(randomCode()));
                case 4 -> deltaOfManyCopies();
                case 5 -> wholeWork();
                case 6 -> undoAll();
                default -> anyCalls(6, false);
            }
        }
    }

    private void both(String what, Due.Call ofTool, Due.Call ofModel) {
        if (calls < CALLS) {
            calls++;
            Due.is(run + " call " + calls + ": " + what, Due.answerOf(ofTool), Due.answerOf(ofModel));
            Due.is(run + " digest behind call " + calls + ": " + what, tool.digest(), model.digest());
        }
    }

    private void append(int version, int value) {
        both("append(" + version + ", " + value + ")",
                () -> tool.append(version, value), () -> model.append(version, value));
    }

    private void clear(int version) {
        both("clear(" + version + ")", () -> tool.clear(version), () -> model.clear(version));
    }

    private void write(int value) {
        both("write(" + value + ")", () -> tool.write(value), () -> model.write(value));
    }

    private void plan(int policy) {
        both("plan(" + policy + ")", () -> tool.plan(policy), () -> model.plan(policy));
    }

    private void simple(int which) {
        switch (which) {
            case 0 -> both("make", () -> tool.make(), () -> model.make());
            case 1 -> both("encode", () -> tool.encode(), () -> model.encode());
            case 2 -> both("decode", () -> tool.decode(), () -> model.decode());
            case 3 -> both("begin", () -> tool.begin(), () -> model.begin());
            case 4 -> both("step", () -> tool.step(), () -> model.step());
            case 5 -> both("undo", () -> tool.undo(), () -> model.undo());
            case 6 -> both("clearCode", () -> tool.clearCode(), () -> model.clearCode());
            case 7 -> both("commands", () -> tool.commands(), () -> model.commands());
            case 8 -> both("converted", () -> tool.converted(), () -> model.converted());
            case 9 -> both("loss", () -> tool.loss(), () -> model.loss());
            case 10 -> both("leastLoss", () -> tool.leastLoss(), () -> model.leastLoss());
            case 11 -> both("compare", () -> tool.compare(), () -> model.compare());
            default -> both("ratio", () -> tool.ratio(), () -> model.ratio());
        }
    }

    private void indexed(int which, int a, int b, int c) {
        String arguments = "(" + a + ", " + b + ", " + c + ")";
        switch (which) {
            case 0 -> both("patch" + arguments, () -> tool.patch(a, b, c), () -> model.patch(a, b, c));
            case 1 -> both("byteOf" + arguments, () -> tool.byteOf(a, b), () -> model.byteOf(a, b));
            case 2 -> both("command" + arguments, () -> tool.command(b, a), () -> model.command(b, a));
            case 3 -> both("mustPrecede" + arguments, () -> tool.mustPrecede(b, c), () -> model.mustPrecede(b, c));
            case 4 -> both("planned" + arguments, () -> tool.planned(b), () -> model.planned(b));
            case 5 -> both("code" + arguments, () -> tool.code(b), () -> model.code(b));
            default -> both("workByte" + arguments, () -> tool.workByte(b), () -> model.workByte(b));
        }
    }

    /** A number that is mostly within the range, sometimes just outside it, seldom far away. */
    private int number(int least, int greatest) {
        switch (random.nextInt(40)) {
            case 0:
                return least - 1;
            case 1:
                return greatest + 1;
            case 2:
                return random.nextBoolean() ? Integer.MIN_VALUE : Integer.MAX_VALUE;
            default:
                return least + random.nextInt(greatest - least + 1);
        }
    }

    private void anyCalls(int count, boolean keepsVersions) {
        for (int i = 0; i < count; i++) {
            switch (random.nextInt(keepsVersions ? 5 : 7)) {
                case 0 -> simple(random.nextInt(13));
                case 1 -> indexed(random.nextInt(6) + 1, number(0, 3), number(-1, 12), number(0, 12));
                case 2 -> plan(number(0, 2));
                case 3 -> simple(3 + random.nextInt(2));
                case 4 -> indexed(1 + random.nextInt(6), number(0, 1), number(0, 63), number(0, 255));
                case 5 -> indexed(0, number(0, 1), number(0, 40), number(0, 255));
                default -> append(number(0, 1), number(0, 255));
            }
        }
    }

    private void undoAll() {
        for (int i = random.nextInt(6); i >= 0; i--) {
            simple(5);
        }
    }

    /** The new version is made of blocks of the old one in another order, so that copies conflict in cycles. */
    private void versionsOfBlocks() {
        clear(0);
        clear(1);
        List<List<Integer>> blocks = new ArrayList<>();
        int letters = 2 + random.nextInt(30);
        for (int i = 3 + random.nextInt(7); i > 0; i--) {
            List<Integer> block = new ArrayList<>();
            for (int k = 3 + random.nextInt(5); k > 0; k--) {
                block.add(random.nextInt(letters));
            }
            blocks.add(block);
            block.forEach(value -> append(0, value));
        }
        Collections.shuffle(blocks, random);
        for (List<Integer> block : blocks) {
            block.forEach(value -> append(1, value));
            if (random.nextInt(4) == 0) {
                append(1, random.nextInt(256));
            }
        }
        simple(0);
        plan(random.nextInt(3));
        simple(1);
        wholeWork();
    }

    private void wholeWork() {
        plan(random.nextInt(3));
        simple(3);
        for (int i = 0; i < 14; i++) {
            simple(random.nextInt(8) == 0 ? 11 : 4);
        }
        simple(11);
    }

    private void putCode(List<Integer> code) {
        simple(6);
        for (int value : code) {
            write(value);
        }
        simple(2);
        simple(10);
        plan(random.nextInt(3));
        simple(3);
        simple(4);
    }

    /** A delta with up to 12 copies that conflict at random, and the old version that it needs. */
    private void deltaOfManyCopies() {
        clear(0);
        int sourceLength = 20 + random.nextInt(20);
        for (int i = 0; i < sourceLength; i++) {
            append(0, random.nextInt(256));
        }
        putCode(codeOf(sourceLength, 12 + random.nextInt(30), 15, 5));
        simple(1);
        wholeWork();
    }

    private List<Integer> randomCode() {
        int sourceLength = random.nextInt(65);
        return codeOf(sourceLength, random.nextInt(65), random.nextInt(31), 1 + random.nextInt(8));
    }

    private List<Integer> codeOf(int sourceLength, int targetLength, int mostCommands, int mostLength) {
        List<Integer> code = new ArrayList<>(List.of(73, sourceLength, targetLength, 0));
        List<List<Integer>> commands = new ArrayList<>();
        int copies = 0;
        int position = random.nextInt(2);
        while (commands.size() < mostCommands && position < targetLength) {
            int length = Math.min(1 + random.nextInt(mostLength), targetLength - position);
            if (random.nextInt(5) > 0 && copies < 12 && sourceLength >= length) {
                commands.add(List.of(1, random.nextInt(sourceLength - length + 1), position, length));
                copies++;
            } else {
                List<Integer> add = new ArrayList<>(List.of(2, position, length));
                for (int i = 0; i < length; i++) {
                    add.add(random.nextInt(256));
                }
                commands.add(add);
            }
            position += length + (random.nextInt(6) == 0 ? 1 : 0);
        }
        Collections.shuffle(commands, random);
        code.set(3, commands.size());
        commands.forEach(code::addAll);
        code.add(checkOf(code));
        return code;
    }

    private static int checkOf(List<Integer> code) {
        return code.stream().mapToInt(b -> b).sum() % 251;
    }

    private List<Integer> spoiled(List<Integer> whole) {
        List<Integer> code = new ArrayList<>(whole);
        int index = random.nextInt(code.size());
        switch (random.nextInt(4)) {
            case 0 -> code.set(index, random.nextInt(256));
            case 1 -> code.set(index, random.nextInt(66));
            case 2 -> code.subList(index, code.size()).clear();
            default -> code.add(random.nextInt(256));
        }
        if (random.nextBoolean() && code.size() > 1) {
            code.remove(code.size() - 1);
            code.add(checkOf(code));
        }
        return code;
    }
}

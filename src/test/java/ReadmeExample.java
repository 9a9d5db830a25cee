/** The program that README.md shows: a delta is made and encoded, decoded and carried out step by step. */
final class ReadmeExample {
    private static final String OLD = "abcdEFGHIJ";
    private static final String NEW = "EFGHIJabcd!";

    public static void main(String[] args) {
        InPlaceDelta sender = new InPlaceDelta();
        append(sender, 0, OLD);
        append(sender, 1, NEW);
        encode(sender);
        carryOut(sender);
        show("compare", sender.compare());

        InPlaceDelta receiver = new InPlaceDelta();
        append(receiver, 0, OLD);
        for (int i = 0; i < sender.code(-1); i++) {
            receiver.write(sender.code(i));
        }
        show("decode", receiver.decode());
        show("plan(0)", receiver.plan(0));
        carryOut(receiver);
        showRefusals(receiver);
    }

    private static void append(InPlaceDelta tool, int version, String text) {
        for (int i = 0; i < text.length(); i++) {
            tool.append(version, text.charAt(i));
        }
    }

    private static void encode(InPlaceDelta tool) {
        show("make", tool.make());
        for (int i = 0; i < tool.commands(); i++) {
            show("command " + i, tool.command(i, 0), tool.command(i, 1), tool.command(i, 2), tool.command(i, 3));
        }
        show("plan(0)", tool.plan(0));
        show("loss", tool.loss());
        show("undo", tool.undo());
        show("plan(1)", tool.plan(1));
        show("loss", tool.loss());
        show("leastLoss", tool.leastLoss());
        show("converted", tool.converted());
        show("order", tool.planned(0), tool.planned(1), tool.planned(2));
        show("encode", tool.encode());
    }

    private static void carryOut(InPlaceDelta tool) {
        int left = tool.begin();
        System.out.println("begin: " + left + " left, " + work(tool));
        while (left > 0) {
            left = tool.step();
            System.out.println("step: " + left + " left, " + work(tool));
        }
    }

    private static String work(InPlaceDelta tool) {
        StringBuilder text = new StringBuilder();
        for (int i = 0; i < tool.workByte(-1); i++) {
            int value = tool.workByte(i);
            text.append(value == 0 ? '.' : (char) value);
        }
        return text.toString();
    }

    private static void showRefusals(InPlaceDelta tool) {
        show("write", tool.write(0));
        show("decode", tool.decode());
        long before = tool.digest();
        try {
            tool.step();
        } catch (IllegalStateException noCommandIsLeft) {
            System.out.println("step threw, the digest is " + (tool.digest() == before ? "the same" : "another"));
        }
    }

    private static void show(String what, int... answers) {
        StringBuilder line = new StringBuilder(what).append(':');
        for (int answer : answers) {
            line.append(' ').append(answer);
        }
        System.out.println(line);
    }
}

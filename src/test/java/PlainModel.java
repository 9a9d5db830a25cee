import java.util.ArrayList;
import java.util.List;

/** The document written a second time, as plainly as possible and with no thought of room or speed. */
final class PlainModel {
    private record Command(boolean copy, int source, int target, int length, List<Integer> bytes) {
        boolean reads(int position) {
            return copy && position >= source && position < source + length;
        }

        boolean writes(int position) {
            return position >= target && position < target + length;
        }
    }

    private record Plan(List<Integer> order, List<Integer> converted) {
    }

    private record Work(int left, List<Integer> bytes) {
    }

    /** No list in a state is ever changed: what changes gets a new list, so a state is saved by its reference. */
    private record State(List<Integer> old, List<Integer> fresh, int sourceLength, int targetLength,
            List<Command> commands, Plan plan, List<Integer> code, Work work) {
        State withPlan(Plan newPlan, Work newWork) {
            return new State(old, fresh, sourceLength, targetLength, commands, newPlan, code, newWork);
        }

        State withCode(List<Integer> newCode) {
            return new State(old, fresh, sourceLength, targetLength, commands, plan, newCode, work);
        }

        State withDelta(int newSource, int newTarget, List<Command> newCommands) {
            return new State(old, fresh, newSource, newTarget, newCommands, null, code, null);
        }

        State withVersion(int version, List<Integer> bytes) {
            return new State(version == 0 ? bytes : old, version == 1 ? bytes : fresh,
                    sourceLength, targetLength, commands, null, code, null);
        }

        List<Integer> version(int version) {
            return version == 0 ? old : fresh;
        }
    }

    private State now = new State(List.of(), List.of(), 0, 0, List.of(), null, List.of(), null);
    private final List<State> saved = new ArrayList<>();

    private void change(State next) {
        saved.add(now);
        if (saved.size() > 4) {
            saved.remove(0);
        }
        now = next;
    }

    private static void argument(boolean fine) {
        if (!fine) {
            throw new IllegalArgumentException();
        }
    }

    private static void state(boolean fine) {
        if (!fine) {
            throw new IllegalStateException();
        }
    }

    private static void index(int index, int size) {
        if (index < 0 || index >= size) {
            throw new IndexOutOfBoundsException();
        }
    }

    private static <T> List<T> plus(List<T> list, T item) {
        List<T> longer = new ArrayList<>(list);
        longer.add(item);
        return longer;
    }

    int append(int version, int value) {
        argument(version == 0 || version == 1);
        argument(value >= 0 && value <= 255);
        state(now.version(version).size() < 64);
        change(now.withVersion(version, plus(now.version(version), value)));
        return now.version(version).size();
    }

    int patch(int version, int index, int value) {
        argument(version == 0 || version == 1);
        argument(value >= 0 && value <= 255);
        index(index, now.version(version).size());
        List<Integer> bytes = new ArrayList<>(now.version(version));
        int previous = bytes.set(index, value);
        change(now.withVersion(version, bytes));
        return previous;
    }

    int clear(int version) {
        argument(version == 0 || version == 1);
        int previous = now.version(version).size();
        change(now.withVersion(version, List.of()));
        return previous;
    }

    int byteOf(int version, int index) {
        argument(version == 0 || version == 1);
        index(index, now.version(version).size());
        return now.version(version).get(index);
    }

    int make() {
        List<Integer> fresh = now.fresh();
        List<Command> made = new ArrayList<>();
        List<Integer> pending = new ArrayList<>();
        int copies = 0;
        int p = 0;
        while (p < fresh.size()) {
            int at = -1;
            int length = fresh.size() - p;
            for (; length >= 1 && at < 0; length--) {
                at = firstOccurrence(fresh.subList(p, p + length));
            }
            length++;
            if (at >= 0 && length >= 4 && copies < 12) {
                flush(made, pending, p);
                made.add(new Command(true, at, p, length, List.of()));
                copies++;
                p += length;
            } else {
                pending.add(fresh.get(p));
                p++;
            }
        }
        flush(made, pending, p);
        change(now.withDelta(now.old().size(), fresh.size(), made));
        return made.size();
    }

    private int firstOccurrence(List<Integer> sought) {
        for (int s = 0; s + sought.size() <= now.old().size(); s++) {
            if (now.old().subList(s, s + sought.size()).equals(sought)) {
                return s;
            }
        }
        return -1;
    }

    private static void flush(List<Command> made, List<Integer> pending, int end) {
        if (!pending.isEmpty()) {
            made.add(new Command(false, -1, end - pending.size(), pending.size(), new ArrayList<>(pending)));
            pending.clear();
        }
    }

    int commands() {
        return now.commands().size();
    }

    int command(int command, int what) {
        index(command, commands());
        argument(what >= 0 && what <= 3);
        Command c = now.commands().get(command);
        return new int[] {c.copy() ? 1 : 2, c.source(), c.target(), c.length()}[what];
    }

    boolean mustPrecede(int i, int j) {
        index(i, commands());
        index(j, commands());
        Command first = now.commands().get(i);
        Command second = now.commands().get(j);
        if (i == j || !first.copy() || !second.copy()) {
            return false;
        }
        for (int position = 0; position < 200; position++) {
            if (first.reads(position) && second.writes(position)) {
                return true;
            }
        }
        return false;
    }

    int plan(int policy) {
        argument(policy >= 0 && policy <= 2);
        state(now.old().size() == now.sourceLength());
        List<Integer> left = copies();
        List<Integer> order = new ArrayList<>();
        List<Integer> converted = new ArrayList<>();
        while (!left.isEmpty()) {
            Integer next = null;
            for (int i : left) {
                if (next == null && left.stream().noneMatch(other -> mustPrecede(other, i))) {
                    next = i;
                }
            }
            if (next != null) {
                order.add(next);
            } else {
                next = victim(left, policy);
                converted.add(next);
            }
            left.remove(next);
        }
        for (int i = 0; i < commands(); i++) {
            if (!order.contains(i)) {
                order.add(i);
            }
        }
        change(now.withPlan(new Plan(order, converted), null));
        return converted.size();
    }

    private List<Integer> copies() {
        List<Integer> copies = new ArrayList<>();
        for (int i = 0; i < commands(); i++) {
            if (now.commands().get(i).copy()) {
                copies.add(i);
            }
        }
        return copies;
    }

    private Integer victim(List<Integer> left, int policy) {
        Integer chosen = left.get(0);
        for (Integer i : left) {
            boolean shorter = now.commands().get(i).length() < now.commands().get(chosen).length();
            boolean busier = neighbours(left, i) > neighbours(left, chosen);
            if (policy == 1 && shorter || policy == 2 && busier) {
                chosen = i;
            }
        }
        return chosen;
    }

    private long neighbours(List<Integer> left, int i) {
        return left.stream().filter(other -> mustPrecede(i, other) || mustPrecede(other, i)).count();
    }

    int planned(int place) {
        state(now.plan() != null);
        index(place, now.plan().order().size());
        return now.plan().order().get(place);
    }

    int converted() {
        state(now.plan() != null);
        int set = 0;
        for (int i : now.plan().converted()) {
            set += 1 << i;
        }
        return set;
    }

    int loss() {
        state(now.plan() != null);
        int loss = 0;
        for (int i : now.plan().converted()) {
            loss += now.commands().get(i).length();
        }
        return loss;
    }

    int leastLoss() {
        List<Integer> copies = copies();
        boolean[][] precedes = new boolean[copies.size()][copies.size()];
        for (int i = 0; i < copies.size(); i++) {
            for (int j = 0; j < copies.size(); j++) {
                precedes[i][j] = mustPrecede(copies.get(i), copies.get(j));
            }
        }
        int least = Integer.MAX_VALUE;
        for (int kept = 0; kept < 1 << copies.size(); kept++) {
            int loss = 0;
            for (int i = 0; i < copies.size(); i++) {
                loss += (kept >> i & 1) != 0 ? 0 : now.commands().get(copies.get(i)).length();
            }
            if (loss < least && !hasCycle(precedes, kept)) {
                least = loss;
            }
        }
        return least;
    }

    /** By the closure of the relation, so that it shares nothing with the way the class itself looks for cycles. */
    private static boolean hasCycle(boolean[][] precedes, int kept) {
        int size = precedes.length;
        boolean[][] reach = new boolean[size][size];
        for (int i = 0; i < size; i++) {
            for (int j = 0; j < size; j++) {
                reach[i][j] = precedes[i][j] && (kept >> i & 1) != 0 && (kept >> j & 1) != 0;
            }
        }
        for (int k = 0; k < size; k++) {
            for (int i = 0; i < size; i++) {
                for (int j = 0; j < size; j++) {
                    reach[i][j] |= reach[i][k] && reach[k][j];
                }
            }
        }
        for (int i = 0; i < size; i++) {
            if (reach[i][i]) {
                return true;
            }
        }
        return false;
    }

    int encode() {
        state(now.plan() != null);
        List<Integer> code = new ArrayList<>(List.of(73, now.sourceLength(), now.targetLength(), commands()));
        for (int i : now.plan().order()) {
            Command c = now.commands().get(i);
            if (isCopied(i)) {
                code.addAll(List.of(1, c.source(), c.target(), c.length()));
            } else {
                code.addAll(List.of(2, c.target(), c.length()));
                code.addAll(bytesToAdd(c));
            }
        }
        code.add(code.stream().mapToInt(b -> b).sum() % 251);
        state(code.size() <= 200);
        change(now.withCode(code));
        return code.size();
    }

    private boolean isCopied(int command) {
        return now.commands().get(command).copy() && !now.plan().converted().contains(command);
    }

    private List<Integer> bytesToAdd(Command c) {
        return c.copy() ? now.old().subList(c.source(), c.source() + c.length()) : c.bytes();
    }

    int write(int value) {
        argument(value >= 0 && value <= 255);
        state(now.code().size() < 200);
        change(now.withCode(plus(now.code(), value)));
        return now.code().size();
    }

    int clearCode() {
        int previous = now.code().size();
        change(now.withCode(List.of()));
        return previous;
    }

    int code(int index) {
        argument(index >= -1);
        return byteOrLength(now.code(), index);
    }

    private static int byteOrLength(List<Integer> bytes, int index) {
        if (index == -1) {
            return bytes.size();
        }
        return index < bytes.size() ? bytes.get(index) : -1;
    }

    /** Thrown by the reader of a code at its fault; the class itself uses no exceptions for this. */
    private static final class Fault extends RuntimeException {
        private static final long serialVersionUID = 1L;
        private final int index;

        Fault(int index) {
            this.index = index;
        }
    }

    private int cursor;

    private int nextByte() {
        if (cursor >= now.code().size()) {
            throw new Fault(now.code().size());
        }
        return now.code().get(cursor++);
    }

    private static void faultIf(boolean wrong, int index) {
        if (wrong) {
            throw new Fault(index);
        }
    }

    int decode() {
        try {
            change(decoded());
            return commands();
        } catch (Fault fault) {
            return -10 - fault.index;
        }
    }

    private State decoded() {
        cursor = 0;
        faultIf(nextByte() != 73, 0);
        int sourceLength = nextByte();
        faultIf(sourceLength > 64, 1);
        int targetLength = nextByte();
        faultIf(targetLength > 64, 2);
        int count = nextByte();
        faultIf(count > 30, 3);
        List<Command> read = new ArrayList<>();
        while (read.size() < count) {
            read.add(decodedCommand(read, sourceLength, targetLength));
        }
        int sum = now.code().subList(0, cursor).stream().mapToInt(b -> b).sum();
        int checkIndex = cursor;
        faultIf(nextByte() != sum % 251, checkIndex);
        faultIf(cursor < now.code().size(), cursor);
        return now.withDelta(sourceLength, targetLength, read);
    }

    private Command decodedCommand(List<Command> read, int sourceLength, int targetLength) {
        int kindIndex = cursor;
        int kind = nextByte();
        faultIf(kind != 1 && kind != 2, kindIndex);
        faultIf(kind == 1 && read.stream().filter(c -> c.copy()).count() == 12, kindIndex);
        int source = -1;
        if (kind == 1) {
            source = nextByte();
            faultIf(source > 64, cursor - 1);
        }
        int targetIndex = cursor;
        int target = nextByte();
        faultIf(target > 64, targetIndex);
        int lengthIndex = cursor;
        int length = nextByte();
        faultIf(length > 64 || length == 0, lengthIndex);
        faultIf(kind == 1 && source + length > sourceLength, lengthIndex);
        faultIf(target + length > targetLength, lengthIndex);
        for (int position = target; position < target + length; position++) {
            int written = position;
            faultIf(read.stream().anyMatch(c -> c.writes(written)), targetIndex);
        }
        List<Integer> bytes = new ArrayList<>();
        while (kind == 2 && bytes.size() < length) {
            bytes.add(nextByte());
        }
        return new Command(kind == 1, source, target, length, bytes);
    }

    int begin() {
        state(now.plan() != null);
        List<Integer> bytes = new ArrayList<>(now.old());
        while (bytes.size() < now.targetLength()) {
            bytes.add(0);
        }
        change(now.withPlan(now.plan(), worked(commands(), bytes)));
        return now.work().left();
    }

    private Work worked(int left, List<Integer> bytes) {
        return new Work(left, left == 0 ? new ArrayList<>(bytes.subList(0, now.targetLength())) : bytes);
    }

    int step() {
        state(now.work() != null);
        state(now.work().left() > 0);
        int number = now.plan().order().get(commands() - now.work().left());
        Command c = now.commands().get(number);
        List<Integer> bytes = new ArrayList<>(now.work().bytes());
        List<Integer> written = isCopied(number)
                ? now.work().bytes().subList(c.source(), c.source() + c.length())
                : bytesToAdd(c);
        for (int i = 0; i < c.length(); i++) {
            bytes.set(c.target() + i, written.get(i));
        }
        change(now.withPlan(now.plan(), worked(now.work().left() - 1, bytes)));
        return now.work().left();
    }

    int workByte(int index) {
        argument(index >= -1);
        state(now.work() != null);
        return byteOrLength(now.work().bytes(), index);
    }

    int compare() {
        state(now.work() != null);
        for (int i = 0; i < 200; i++) {
            if (byteOrLength(now.work().bytes(), i) != byteOrLength(now.fresh(), i)) {
                return i;
            }
        }
        return -1;
    }

    double ratio() {
        return now.fresh().isEmpty() ? 0.0 : (double) now.code().size() / (double) now.fresh().size();
    }

    int undo() {
        state(!saved.isEmpty());
        now = saved.remove(saved.size() - 1);
        return saved.size();
    }

    long digest() {
        List<Integer> values = new ArrayList<>();
        addWithLength(values, now.old());
        addWithLength(values, now.fresh());
        values.add(now.sourceLength());
        values.add(now.targetLength());
        values.add(commands());
        for (int i = 0; i < commands(); i++) {
            for (int what = 0; what < 4; what++) {
                values.add(command(i, what));
            }
            values.addAll(now.commands().get(i).bytes());
        }
        values.add(leastLoss());
        values.add(now.plan() == null ? 0 : 1);
        if (now.plan() != null) {
            values.addAll(now.plan().order());
            values.add(converted());
        }
        addWithLength(values, now.code());
        values.add(now.work() == null ? 0 : 1);
        if (now.work() != null) {
            values.add(now.work().left());
            addWithLength(values, now.work().bytes());
        }
        values.add(saved.size());
        long h = 2777;
        for (int v : values) {
            h = 31 * h + v;
        }
        return h;
    }

    private static void addWithLength(List<Integer> values, List<Integer> bytes) {
        values.add(bytes.size());
        values.addAll(bytes);
    }
}

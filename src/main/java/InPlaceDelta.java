/**
 * A tool for in-place deltas: a new version of a file as commands that copy from the old version
 * and add bytes, in an order in which they can overwrite the old version where it lies.
 */
public final class InPlaceDelta {
    /** There is no such thing. */
    public static final int NONE = -1;

    private static final int VERSION_LIMIT = 64;
    private static final int CODE_LIMIT = 200;
    private static final int COMMAND_LIMIT = 30;
    private static final int COPY_LIMIT = 12;
    private static final int SAVED_LIMIT = 4;
    private static final int GREATEST_BYTE = 255;
    private static final int GREATEST_POLICY = 2;
    private static final int LEAST_MATCH = 4;
    private static final int COPY = 1;
    private static final int ADD = 2;
    private static final int FIRST_CODE_BYTE = 73;
    private static final int CHECK_MODULUS = 251;
    private static final int FAULT_BASE = -10;
    private static final long FIRST_HASH = 2777;

    private final State now;
    private final History history;
    private final Decoder decoder;

    public InPlaceDelta() {
        now = new State();
        history = new History();
        decoder = new Decoder();
    }

    // ---- versions

    public int append(int version, int value) throws IllegalArgumentException, IllegalStateException {
        requireVersion(version);
        requireByte(value);
        Bytes bytes = now.version(version);
        if (bytes.isFull()) {
            throw new IllegalStateException("the version is full");
        }
        history.save(now);
        now.dropPlan();
        bytes.push(value);
        return bytes.count;
    }

    public int patch(int version, int index, int value) throws IllegalArgumentException, IndexOutOfBoundsException {
        requireVersion(version);
        requireByte(value);
        Bytes bytes = now.version(version);
        requireIndex(bytes.has(index));
        history.save(now);
        now.dropPlan();
        int previous = bytes.at(index);
        bytes.put(index, value);
        return previous;
    }

    public int clear(int version) throws IllegalArgumentException {
        requireVersion(version);
        Bytes bytes = now.version(version);
        history.save(now);
        now.dropPlan();
        int previous = bytes.count;
        bytes.cut(0);
        return previous;
    }

    public int byteOf(int version, int index) throws IllegalArgumentException, IndexOutOfBoundsException {
        requireVersion(version);
        Bytes bytes = now.version(version);
        requireIndex(bytes.has(index));
        return bytes.at(index);
    }

    // ---- delta

    public int make() {
        history.save(now);
        now.dropPlan();
        Maker.fill(now.delta, now.oldVersion, now.newVersion);
        return now.delta.count;
    }

    public int commands() {
        return now.delta.count;
    }

    public int command(int command, int what) throws IndexOutOfBoundsException, IllegalArgumentException {
        requireIndex(now.delta.has(command));
        if (what < 0 || what > 3) {
            throw new IllegalArgumentException("what is out of range");
        }
        return now.delta.describe(command, what);
    }

    public boolean mustPrecede(int i, int j) throws IndexOutOfBoundsException {
        requireIndex(now.delta.has(i) && now.delta.has(j));
        return isIn(now.delta.precedersOf(j), i);
    }

    // ---- plan

    public int plan(int policy) throws IllegalArgumentException, IllegalStateException {
        if (policy < 0 || policy > GREATEST_POLICY) {
            throw new IllegalArgumentException("the policy is out of range");
        }
        if (now.oldVersion.count != now.delta.sourceLength) {
            throw new IllegalStateException("the old version has not the source length of the delta");
        }
        history.save(now);
        now.dropPlan();
        now.plan.build(now.delta, policy);
        return Integer.bitCount(now.plan.convertedSet);
    }

    public int planned(int place) throws IllegalStateException, IndexOutOfBoundsException {
        requirePlan();
        requireIndex(now.plan.has(place));
        return now.plan.at(place);
    }

    public int converted() throws IllegalStateException {
        requirePlan();
        return now.plan.convertedSet;
    }

    public int loss() throws IllegalStateException {
        requirePlan();
        return now.plan.lostLength;
    }

    public int leastLoss() {
        return now.delta.least();
    }

    // ---- code

    public int encode() throws IllegalStateException {
        requirePlan();
        if (Encoder.lengthOf(now) > CODE_LIMIT) {
            throw new IllegalStateException("the code would be too long");
        }
        history.save(now);
        Encoder.fill(now);
        return now.code.count;
    }

    public int write(int value) throws IllegalArgumentException, IllegalStateException {
        requireByte(value);
        if (now.code.isFull()) {
            throw new IllegalStateException("the code is full");
        }
        history.save(now);
        now.code.push(value);
        return now.code.count;
    }

    public int clearCode() {
        history.save(now);
        int previous = now.code.count;
        now.code.cut(0);
        return previous;
    }

    public int code(int index) throws IllegalArgumentException {
        requireIndexOrLength(index);
        return now.code.atOrLength(index);
    }

    public int decode() {
        int fault = decoder.read(now.code);
        if (fault != NONE) {
            return FAULT_BASE - fault;
        }
        history.save(now);
        now.dropPlan();
        now.delta.take(decoder.delta);
        return now.delta.count;
    }

    // ---- work

    public int begin() throws IllegalStateException {
        requirePlan();
        history.save(now);
        now.work.start(now);
        return now.work.left;
    }

    public int step() throws IllegalStateException {
        requireWork();
        if (now.work.left == 0) {
            throw new IllegalStateException("no command is left");
        }
        history.save(now);
        now.work.carryOutNext(now);
        return now.work.left;
    }

    public int workByte(int index) throws IllegalArgumentException, IllegalStateException {
        requireIndexOrLength(index);
        requireWork();
        return now.work.bytes.atOrLength(index);
    }

    public int compare() throws IllegalStateException {
        requireWork();
        Bytes made = now.work.bytes;
        Bytes wanted = now.newVersion;
        int same = made.common(0, wanted, 0);
        return same == made.count && same == wanted.count ? NONE : same;
    }

    public double ratio() {
        if (now.newVersion.count == 0) {
            return 0.0;
        }
        return (double) now.code.count / (double) now.newVersion.count;
    }

    // ---- state

    public int undo() throws IllegalStateException {
        if (history.count == 0) {
            throw new IllegalStateException("there is no saved state");
        }
        history.restore(now);
        return history.count;
    }

    public long digest() {
        long hash = now.oldVersion.mixInto(FIRST_HASH);
        hash = now.newVersion.mixInto(hash);
        hash = now.delta.mixInto(hash);
        hash = mix(hash, now.delta.least());
        hash = now.plan.mixInto(hash);
        hash = now.code.mixInto(hash);
        hash = now.work.mixInto(hash);
        return mix(hash, history.count);
    }

    // ---- what the arguments and the state are asked for

    private static void requireVersion(int version) {
        if (version != 0 && version != 1) {
            throw new IllegalArgumentException("there is no such version");
        }
    }

    private static void requireByte(int value) {
        if (value < 0 || value > GREATEST_BYTE) {
            throw new IllegalArgumentException("the value is no byte");
        }
    }

    private static void requireIndex(boolean there) {
        if (!there) {
            throw new IndexOutOfBoundsException("there is nothing at this index");
        }
    }

    private static void requireIndexOrLength(int index) {
        if (index < -1) {
            throw new IllegalArgumentException("the index is less than -1");
        }
    }

    private void requirePlan() {
        if (!now.plan.there) {
            throw new IllegalStateException("there is no plan");
        }
    }

    private void requireWork() {
        if (!now.work.there) {
            throw new IllegalStateException("there is no work");
        }
    }

    // ---- what the classes inside share

    private static long mix(long hash, long value) {
        return 31 * hash + value;
    }

    private static boolean overlap(int start, int length, int otherStart, int otherLength) {
        return start < otherStart + otherLength && otherStart < start + length;
    }

    private static boolean isIn(int set, int number) {
        return (set >> number & 1) != 0;
    }

    private static int without(int set, int number) {
        return set & ~(1 << number);
    }

    /** A buffer of bytes with a limit. */
    private static final class Bytes {
        private final int[] values;
        private int count;

        Bytes(int limit) {
            values = new int[Math.max(0, limit)];
        }

        boolean isFull() {
            return count >= values.length;
        }

        boolean has(int index) {
            return index >= 0 && index < count;
        }

        int at(int index) {
            return has(index) ? values[index] : NONE;
        }

        int atOrLength(int index) {
            return index == -1 ? count : at(index);
        }

        void put(int index, int value) {
            if (has(index)) {
                values[index] = value;
            }
        }

        void push(int value) {
            if (!isFull()) {
                values[count] = value;
                count++;
            }
        }

        void cut(int length) {
            count = Math.max(0, Math.min(count, length));
        }

        /** Copies bytes within the buffer, all of them read before any is written. */
        void move(int from, int to, int length) {
            if (from >= 0 && to >= 0 && length >= 0 && from + length <= count && to + length <= count) {
                System.arraycopy(values, from, values, to, length);
            }
        }

        void take(Bytes other) {
            count = Math.min(other.count, values.length);
            System.arraycopy(other.values, 0, values, 0, count);
        }

        /** The number of bytes from the start on that are equal to the other's from its start on. */
        int common(int start, Bytes other, int otherStart) {
            int most = Math.min(count - start, other.count - otherStart);
            int length = 0;
            while (length < most && at(start + length) == other.at(otherStart + length)) {
                length++;
            }
            return length;
        }

        int sum() {
            int sum = 0;
            for (int i = 0; i < count; i++) {
                sum += at(i);
            }
            return sum;
        }

        long mixInto(long hash) {
            long mixed = mix(hash, count);
            for (int i = 0; i < count; i++) {
                mixed = mix(mixed, at(i));
            }
            return mixed;
        }
    }

    /** A list of commands with the conflicts between its COPY commands. */
    private static final class Delta {
        private final int[] kind;
        private final int[] source;
        private final int[] target;
        private final int[] length;
        /** For each COPY the set of the COPY commands that must be carried out before it. */
        private final int[] preceders;
        /** The bytes of all ADD commands: no position is written twice, so one row by position holds them. */
        private final int[] added;
        private int sourceLength;
        private int targetLength;
        private int count;
        private int copySet;
        /** NONE until it is asked for, since few deltas are asked and the search is dear. */
        private int knownLeast;

        Delta() {
            kind = new int[COMMAND_LIMIT];
            source = new int[COMMAND_LIMIT];
            target = new int[COMMAND_LIMIT];
            length = new int[COMMAND_LIMIT];
            preceders = new int[COMMAND_LIMIT];
            added = new int[VERSION_LIMIT];
            knownLeast = NONE;
        }

        boolean has(int command) {
            return command >= 0 && command < count;
        }

        boolean isCopy(int command) {
            return isIn(copySet, command);
        }

        boolean mayCopy() {
            return Integer.bitCount(copySet) < COPY_LIMIT;
        }

        int sourceOf(int command) {
            return has(command) ? source[command] : NONE;
        }

        int targetOf(int command) {
            return has(command) ? target[command] : NONE;
        }

        int lengthOf(int command) {
            return has(command) ? length[command] : 0;
        }

        int precedersOf(int command) {
            return has(command) ? preceders[command] : 0;
        }

        int addedAt(int position) {
            return position >= 0 && position < VERSION_LIMIT ? added[position] : 0;
        }

        int describe(int command, int what) {
            switch (what) {
                case 0:
                    return has(command) ? kind[command] : NONE;
                case 1:
                    return sourceOf(command);
                case 2:
                    return targetOf(command);
                default:
                    return lengthOf(command);
            }
        }

        void reset(int newSourceLength, int newTargetLength) {
            sourceLength = newSourceLength;
            targetLength = newTargetLength;
            count = 0;
            copySet = 0;
            knownLeast = NONE;
        }

        /** Appends a command; the source position of an ADD is NONE. */
        void push(int newKind, int from, int to, int size) {
            if (count < COMMAND_LIMIT) {
                kind[count] = newKind;
                source[count] = from;
                target[count] = to;
                length[count] = size;
                preceders[count] = 0;
                count++;
                if (newKind == COPY) {
                    linkCopy(count - 1);
                }
            }
        }

        private void linkCopy(int copy) {
            for (int other = 0; other < copy; other++) {
                if (isCopy(other)) {
                    linkPair(other, copy);
                    linkPair(copy, other);
                }
            }
            copySet |= 1 << copy;
        }

        private void linkPair(int reader, int writer) {
            if (overlap(sourceOf(reader), lengthOf(reader), targetOf(writer), lengthOf(writer)) && has(writer)) {
                preceders[writer] |= 1 << reader;
            }
        }

        void putAdded(int position, int value) {
            if (position >= 0 && position < VERSION_LIMIT) {
                added[position] = value;
            }
        }

        boolean writesAnyOf(int start, int size) {
            for (int i = 0; i < count; i++) {
                if (overlap(targetOf(i), lengthOf(i), start, size)) {
                    return true;
                }
            }
            return false;
        }

        /** The lowest of the set that no other of the set must precede, or NONE. */
        int firstFree(int set) {
            for (int i = 0; i < count; i++) {
                if (isIn(set, i) && (precedersOf(i) & set) == 0) {
                    return i;
                }
            }
            return NONE;
        }

        int least() {
            if (knownLeast == NONE) {
                knownLeast = LeastLoss.of(this);
            }
            return knownLeast;
        }

        void take(Delta other) {
            sourceLength = other.sourceLength;
            targetLength = other.targetLength;
            count = other.count;
            copySet = other.copySet;
            knownLeast = other.knownLeast;
            System.arraycopy(other.kind, 0, kind, 0, COMMAND_LIMIT);
            System.arraycopy(other.source, 0, source, 0, COMMAND_LIMIT);
            System.arraycopy(other.target, 0, target, 0, COMMAND_LIMIT);
            System.arraycopy(other.length, 0, length, 0, COMMAND_LIMIT);
            System.arraycopy(other.preceders, 0, preceders, 0, COMMAND_LIMIT);
            System.arraycopy(other.added, 0, added, 0, VERSION_LIMIT);
        }

        long mixInto(long hash) {
            long mixed = mix(hash, sourceLength);
            mixed = mix(mixed, targetLength);
            mixed = mix(mixed, count);
            for (int i = 0; i < count; i++) {
                mixed = mixCommandInto(mixed, i);
            }
            return mixed;
        }

        private long mixCommandInto(long hash, int command) {
            long mixed = hash;
            for (int what = 0; what <= 3; what++) {
                mixed = mix(mixed, describe(command, what));
            }
            if (!isCopy(command)) {
                for (int i = 0; i < lengthOf(command); i++) {
                    mixed = mix(mixed, addedAt(targetOf(command) + i));
                }
            }
            return mixed;
        }
    }

    /** Makes a delta from two versions. */
    private static final class Maker {
        static void fill(Delta delta, Bytes oldVersion, Bytes newVersion) {
            delta.reset(oldVersion.count, newVersion.count);
            int pendingStart = 0;
            int position = 0;
            while (position < newVersion.count) {
                int source = delta.mayCopy() ? longestMatch(oldVersion, newVersion, position) : NONE;
                if (source == NONE) {
                    position++;
                } else {
                    int length = oldVersion.common(source, newVersion, position);
                    pushPending(delta, newVersion, pendingStart, position);
                    delta.push(COPY, source, position, length);
                    position += Math.max(1, length);
                    pendingStart = position;
                }
            }
            pushPending(delta, newVersion, pendingStart, newVersion.count);
        }

        /** The smallest position of the longest match, or NONE if no match is long enough. */
        private static int longestMatch(Bytes oldVersion, Bytes newVersion, int position) {
            int found = NONE;
            int longest = LEAST_MATCH - 1;
            for (int source = 0; source < oldVersion.count; source++) {
                int length = oldVersion.common(source, newVersion, position);
                if (length > longest) {
                    longest = length;
                    found = source;
                }
            }
            return found;
        }

        private static void pushPending(Delta delta, Bytes newVersion, int start, int end) {
            if (start < end) {
                delta.push(ADD, NONE, start, end - start);
                for (int i = start; i < end; i++) {
                    delta.putAdded(i, newVersion.at(i));
                }
            }
        }
    }

    /** Which COPY commands are converted, and the order of all commands. */
    private static final class Plan {
        private final int[] order;
        private boolean there;
        private int count;
        private int convertedSet;
        private int lostLength;

        Plan() {
            order = new int[COMMAND_LIMIT];
        }

        boolean has(int place) {
            return place >= 0 && place < count;
        }

        int at(int place) {
            return has(place) ? order[place] : NONE;
        }

        boolean isCopied(Delta delta, int command) {
            return delta.isCopy(command) && !isIn(convertedSet, command);
        }

        void build(Delta delta, int policy) {
            there = true;
            count = 0;
            convertedSet = 0;
            lostLength = 0;
            placeCopies(delta, policy);
            for (int i = 0; i < delta.count; i++) {
                if (!isCopied(delta, i)) {
                    place(i);
                }
            }
        }

        private void placeCopies(Delta delta, int policy) {
            int left = delta.copySet;
            for (int turn = 0; turn < COMMAND_LIMIT && left != 0; turn++) {
                int next = delta.firstFree(left);
                if (next == NONE) {
                    next = choose(delta, left, policy);
                    convertedSet |= 1 << next;
                    lostLength += delta.lengthOf(next);
                } else {
                    place(next);
                }
                left = without(left, next);
            }
        }

        private void place(int command) {
            if (count < COMMAND_LIMIT) {
                order[count] = command;
                count++;
            }
        }

        /** The COPY to be converted: the one with the greatest worth, the lowest number of equal ones. */
        private static int choose(Delta delta, int left, int policy) {
            int chosen = NONE;
            int greatest = 0;
            for (int i = 0; i < delta.count; i++) {
                if (isIn(left, i)) {
                    int worth = worth(delta, left, policy, i);
                    if (chosen == NONE || worth > greatest) {
                        chosen = i;
                        greatest = worth;
                    }
                }
            }
            return chosen;
        }

        private static int worth(Delta delta, int left, int policy, int command) {
            switch (policy) {
                case 1:
                    return -delta.lengthOf(command);
                case 2:
                    return conflicts(delta, left, command);
                default:
                    return 0;
            }
        }

        private static int conflicts(Delta delta, int left, int command) {
            int set = delta.precedersOf(command) & left;
            for (int i = 0; i < delta.count; i++) {
                if (isIn(left, i) && isIn(delta.precedersOf(i), command)) {
                    set |= 1 << i;
                }
            }
            return Integer.bitCount(set);
        }

        void take(Plan other) {
            there = other.there;
            count = other.count;
            convertedSet = other.convertedSet;
            lostLength = other.lostLength;
            System.arraycopy(other.order, 0, order, 0, COMMAND_LIMIT);
        }

        long mixInto(long hash) {
            if (!there) {
                return mix(hash, 0);
            }
            long mixed = mix(hash, 1);
            for (int i = 0; i < count; i++) {
                mixed = mix(mixed, at(i));
            }
            return mix(mixed, convertedSet);
        }
    }

    /** Searches the least loss that leaves the COPY commands without a cycle. */
    private static final class LeastLoss {
        static int of(Delta delta) {
            int cyclic = cyclicPart(delta, delta.copySet);
            int all = 0;
            for (int i = 0; i < delta.count; i++) {
                all += isIn(cyclic, i) ? delta.lengthOf(i) : 0;
            }
            return search(delta, nextOf(cyclic, 0), cyclic, 0, 0, all);
        }

        /** What is left of the set when no more can be placed: empty if and only if there is no cycle in it. */
        private static int cyclicPart(Delta delta, int set) {
            int left = set;
            for (int turn = 0; turn < COMMAND_LIMIT; turn++) {
                int next = delta.firstFree(left);
                if (next == NONE) {
                    return left;
                }
                left = without(left, next);
            }
            return left;
        }

        private static int nextOf(int set, int start) {
            for (int i = start; i < COMMAND_LIMIT; i++) {
                if (isIn(set, i)) {
                    return i;
                }
            }
            return COMMAND_LIMIT;
        }

        /** Decides for the COPY commands of the set from number on; the number grows, so it bounds the depth. */
        private static int search(Delta delta, int number, int set, int kept, int loss, int best) {
            if (loss >= best) {
                return best;
            }
            if (number >= COMMAND_LIMIT) {
                return loss;
            }
            int next = nextOf(set, number + 1);
            int found = best;
            int with = kept | 1 << number;
            if (cyclicPart(delta, with) == 0) {
                found = search(delta, next, set, with, loss, found);
            }
            return search(delta, next, set, kept, loss + delta.lengthOf(number), found);
        }
    }

    /** Writes a delta by its plan as code. */
    private static final class Encoder {
        static int lengthOf(State state) {
            int length = 5;
            for (int i = 0; i < state.delta.count; i++) {
                length += state.plan.isCopied(state.delta, i) ? 4 : 3 + state.delta.lengthOf(i);
            }
            return length;
        }

        static void fill(State state) {
            Bytes code = state.code;
            code.cut(0);
            code.push(FIRST_CODE_BYTE);
            code.push(state.delta.sourceLength);
            code.push(state.delta.targetLength);
            code.push(state.delta.count);
            for (int place = 0; place < state.plan.count; place++) {
                pushCommand(state, state.plan.at(place));
            }
            code.push(code.sum() % CHECK_MODULUS);
        }

        private static void pushCommand(State state, int command) {
            Bytes code = state.code;
            if (state.plan.isCopied(state.delta, command)) {
                code.push(COPY);
                code.push(state.delta.sourceOf(command));
                code.push(state.delta.targetOf(command));
                code.push(state.delta.lengthOf(command));
            } else {
                code.push(ADD);
                code.push(state.delta.targetOf(command));
                code.push(state.delta.lengthOf(command));
                for (int i = 0; i < state.delta.lengthOf(command); i++) {
                    code.push(state.byteToAdd(command, i));
                }
            }
        }
    }

    /** Reads a code strictly, into a delta of its own, so that a code with a fault changes nothing else. */
    private static final class Decoder {
        private final Delta delta;
        private int cursor;
        private int sum;
        private int fault;

        Decoder() {
            delta = new Delta();
        }

        /** The fault of the code, or NONE: then the delta is what the code says. */
        int read(Bytes code) {
            cursor = 0;
            sum = 0;
            fault = NONE;
            next(code, FIRST_CODE_BYTE, FIRST_CODE_BYTE);
            int sourceLength = next(code, 0, VERSION_LIMIT);
            int targetLength = next(code, 0, VERSION_LIMIT);
            int commands = next(code, 0, COMMAND_LIMIT);
            delta.reset(sourceLength, targetLength);
            for (int i = 0; i < commands && fault == NONE; i++) {
                readCommand(code);
            }
            int check = sum % CHECK_MODULUS;
            next(code, check, check);
            if (fault == NONE && code.has(cursor)) {
                fault = cursor;
            }
            return fault;
        }

        /** The next byte; behind a fault nothing is read any more, so the first fault stays. */
        private int next(Bytes code, int least, int greatest) {
            if (fault != NONE) {
                return least;
            }
            if (!code.has(cursor)) {
                fault = code.count;
                return least;
            }
            int value = code.at(cursor);
            if (value < least || value > greatest) {
                fault = cursor;
                return least;
            }
            sum += value;
            cursor++;
            return value;
        }

        private void readCommand(Bytes code) {
            int kind = next(code, delta.mayCopy() ? COPY : ADD, ADD);
            int source = kind == COPY ? next(code, 0, VERSION_LIMIT) : NONE;
            int target = next(code, 0, VERSION_LIMIT);
            int length = next(code, 1, VERSION_LIMIT);
            if (fault == NONE) {
                fault = rangeFault(kind, source, target, length);
            }
            if (fault != NONE) {
                return;
            }
            delta.push(kind, source, target, length);
            if (kind == ADD) {
                for (int i = 0; i < length; i++) {
                    delta.putAdded(target + i, next(code, 0, GREATEST_BYTE));
                }
            }
        }

        private int rangeFault(int kind, int source, int target, int length) {
            int lengthIndex = cursor - 1;
            if (kind == COPY && source + length > delta.sourceLength) {
                return lengthIndex;
            }
            if (target + length > delta.targetLength) {
                return lengthIndex;
            }
            return delta.writesAnyOf(target, length) ? lengthIndex - 1 : NONE;
        }
    }

    /** The old version while the commands are carried out on it. */
    private static final class Work {
        private final Bytes bytes;
        private boolean there;
        private int left;

        Work() {
            bytes = new Bytes(VERSION_LIMIT);
        }

        void start(State state) {
            there = true;
            left = state.plan.count;
            bytes.take(state.oldVersion);
            for (int i = bytes.count; i < state.delta.targetLength; i++) {
                bytes.push(0);
            }
            cutIfFinished(state.delta);
        }

        void carryOutNext(State state) {
            int command = state.plan.at(state.plan.count - left);
            int target = state.delta.targetOf(command);
            int length = state.delta.lengthOf(command);
            if (state.plan.isCopied(state.delta, command)) {
                bytes.move(state.delta.sourceOf(command), target, length);
            } else {
                for (int i = 0; i < length; i++) {
                    bytes.put(target + i, state.byteToAdd(command, i));
                }
            }
            left--;
            cutIfFinished(state.delta);
        }

        private void cutIfFinished(Delta delta) {
            if (left == 0) {
                bytes.cut(delta.targetLength);
            }
        }

        void take(Work other) {
            there = other.there;
            left = other.left;
            bytes.take(other.bytes);
        }

        long mixInto(long hash) {
            if (!there) {
                return mix(hash, 0);
            }
            return bytes.mixInto(mix(mix(hash, 1), left));
        }
    }

    /** All that a saved state contains. */
    private static final class State {
        private final Bytes oldVersion;
        private final Bytes newVersion;
        private final Delta delta;
        private final Plan plan;
        private final Bytes code;
        private final Work work;

        State() {
            oldVersion = new Bytes(VERSION_LIMIT);
            newVersion = new Bytes(VERSION_LIMIT);
            delta = new Delta();
            plan = new Plan();
            code = new Bytes(CODE_LIMIT);
            work = new Work();
        }

        Bytes version(int number) {
            return number == 0 ? oldVersion : newVersion;
        }

        void dropPlan() {
            plan.there = false;
            work.there = false;
        }

        /** A byte of an ADD or of a converted COPY. */
        int byteToAdd(int command, int offset) {
            return delta.isCopy(command)
                    ? oldVersion.at(delta.sourceOf(command) + offset)
                    : delta.addedAt(delta.targetOf(command) + offset);
        }

        void take(State other) {
            oldVersion.take(other.oldVersion);
            newVersion.take(other.newVersion);
            delta.take(other.delta);
            plan.take(other.plan);
            code.take(other.code);
            work.take(other.work);
        }
    }

    /** The saved states, in a ring whose rows are made once. */
    private static final class History {
        private final State[] saved;
        private int next;
        private int count;

        History() {
            saved = new State[SAVED_LIMIT];
            for (int i = 0; i < SAVED_LIMIT; i++) {
                saved[i] = new State();
            }
        }

        void save(State state) {
            saved[next].take(state);
            next = (next + 1) % SAVED_LIMIT;
            count = Math.min(count + 1, SAVED_LIMIT);
        }

        void restore(State state) {
            next = (next + SAVED_LIMIT - 1) % SAVED_LIMIT;
            state.take(saved[next]);
            count--;
        }
    }
}

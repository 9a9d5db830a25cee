/** "What it is" and the paragraphs of "Description" but for "Plans" and "Decoding", sentence by sentence. */
final class DescriptionSentences {
    private DescriptionSentences() {
    }

    static void run() {
        whatItIs();
        versions();
        commands();
        making();
        makingCopiesAndAdds();
        conflicts();
        encoding();
        encodedCommands();
        carryingOut();
        undo();
        constants();
    }

    private static void whatItIs() {
        Sentences.from("What it is");
        Sentences.test("A tool for in-place deltas: a new version of a file is written as commands that copy from the "
                + "old version and add bytes, the commands are put into an order in which they can overwrite the old "
                + "version where it lies, copies that conflict in a cycle are replaced by additions, and the delta is "
                + "encoded, decoded strictly, and carried out step by step.", () -> {
            for (int policy = 0; policy <= 2; policy++) {
                InPlaceDelta tool = States.circle();
                Due.is("three copies in a cycle", tool.plan(policy), 1);
                tool.encode();
                Due.is("decode of the own code", tool.decode(), 5);
                Due.is("no cycle is left in it", tool.plan(policy), 0);
                Due.is("the steps", Tools.finish(tool), 5);
                Due.is("the new version where the old one lay", tool.compare(), InPlaceDelta.NONE);
            }
        });
        Sentences.test("An object is used for at most 512 calls after it has been made", () -> {
            InPlaceDelta tool = new InPlaceDelta();
            for (int i = 0; i < 510; i += 2) {
                Due.is("call " + (i + 1), tool.write(i % 256), 1);
                Due.is("call " + (i + 2), tool.clearCode(), 1);
            }
            Due.is("call 511", tool.write(9), 1);
            Due.is("call 512", tool.digest(), Tools.hashOf(0, 0, 0, 0, 0, 0, 0, 1, 9, 0, 4));
        });
    }

    private static void versions() {
        Sentences.from("Description, Versions");
        Sentences.test("There are two buffers of bytes (0 to 255)", () -> {
            for (int version = 0; version <= 1; version++) {
                InPlaceDelta tool = new InPlaceDelta();
                tool.append(version, 0);
                tool.append(version, 255);
                Due.is("the byte 0", tool.byteOf(version, 0), 0);
                Due.is("the byte 255", tool.byteOf(version, 1), 255);
            }
            Twin.refusesArgument("a buffer -1", States::underWay, t -> t.append(-1, 0));
            Twin.refusesArgument("a third buffer", States::underWay, t -> t.append(2, 0));
        });
        Sentences.test("each with at most 64 bytes", () -> {
            for (int version = 0; version <= 1; version++) {
                int number = version;
                InPlaceDelta tool = new InPlaceDelta();
                for (int i = 0; i < 64; i++) {
                    Due.is("byte " + i, tool.append(number, i), i + 1);
                }
                Due.is("the last one", tool.byteOf(number, 63), 63);
                Due.throwsState("a 65th", () -> tool.append(number, 64));
                Due.throwsIndex("it is not there", () -> tool.byteOf(number, 64));
                Due.is("the other one is empty all the same", tool.append(1 - number, 7), 1);
            }
        });
        Sentences.test("and empty at first", () -> {
            InPlaceDelta tool = new InPlaceDelta();
            Due.throwsIndex("no old byte", () -> tool.byteOf(0, 0));
            Due.throwsIndex("no new byte", () -> tool.byteOf(1, 0));
            Due.is("clear(0)", tool.clear(0), 0);
            Due.is("clear(1)", tool.clear(1), 0);
        });
        Sentences.test("buffer 0 is the old version, buffer 1 is the new version", () -> {
            InPlaceDelta tool = new InPlaceDelta();
            Tools.appendAll(tool, 0, "XYabcd");
            Tools.appendAll(tool, 1, "abcdZ");
            tool.make();
            Due.is("from 0 to 1", Tools.deltaOf(tool), "1 2 0 4; 2 -1 4 1");
        });
    }

    private static void commands() {
        Sentences.from("Description, Commands");
        Sentences.test("A COPY has a source position, a target position and a length of at least 1", () -> {
            Due.is("one of length 1", Tools.deltaOf(Tools.ofCopies(64, 63, 62, 1)), "1 63 62 1");
            DecodingSentences.fault("one of length 0", 7, 73, 64, 64, 1, 1, 63, 62, 0, 73);
        });
        Sentences.test("the bytes of the old version from the source position on become the bytes of the new version "
                + "from the target position on", () -> {
            InPlaceDelta tool = Tools.ofCopies(6, 1, 3, 2);
            tool.plan(0);
            Tools.finish(tool);
            Due.is("bytes 1 and 2 at 3 and 4", Tools.workOf(tool), "012125");
        });
        Sentences.test("An ADD has a target position, a length of at least 1, and its bytes, which become the bytes of "
                + "the new version from the target position on.", () -> {
            InPlaceDelta tool = Tools.ofDecoded("abcdef", 73, 6, 6, 2, 2, 5, 1, 'X', 2, 1, 2, 'Y', 'Z');
            Due.is("one of length 1", Tools.deltaOf(tool), "2 -1 5 1; 2 -1 1 2");
            tool.plan(0);
            Tools.finish(tool);
            Due.is("its bytes", Tools.workOf(tool), "aYZdeX");
            DecodingSentences.fault("one of length 0", 6, 73, 64, 64, 1, 2, 5, 0, 148);
        });
        Sentences.test("A delta is a list of at most 30 commands", () -> {
            Due.is("30", States.thirtyAdds().commands(), 30);
            DecodingSentences.fault("31", 3, 73, 0, 64, 31);
        });
        Sentences.test("at most 12 of which are COPY commands", () -> {
            Due.is("12 of 30", States.twelveCopies().commands(), 30);
            Due.is("the last one is a COPY", States.twelveCopies().command(29, 0), 1);
            int[] bytes = States.twelveCopiesBytes();
            int[] copy = {1, 0, 40, 1};
            System.arraycopy(copy, 0, bytes, 4, 4);
            DecodingSentences.fault("13 of 30", 4 + 29 * 4, bytes);
            InPlaceDelta made = Tools.ofMade("abcd", "abcd".repeat(13));
            Due.is("a made delta has 12, too", made.commands(), 13);
            Due.is("the 12th COPY", made.command(11, 0), 1);
            Due.is("the 13th command", made.command(12, 0), 2);
        });
        Sentences.test("commands are numbered from 0", () -> {
            InPlaceDelta tool = Tools.ofMade("abcd", "xabcd");
            Due.is("command 0", tool.command(0, 0), 2);
            Due.is("command 1", tool.command(1, 0), 1);
            Due.throwsIndex("no command 2", () -> tool.command(2, 0));
        });
        Sentences.test("A delta has a target length, the length of the new version that it makes, and a source length, "
                + "the length of the old version that it needs.", () -> {
            InPlaceDelta tool = Tools.ofDecoded("abc", 73, 4, 2, 0);
            Due.throwsState("3 bytes are too few", () -> tool.plan(0));
            tool.append(0, 'd');
            tool.plan(0);
            tool.begin();
            Due.is("it makes 2 bytes of 4", Tools.workOf(tool), "ab");
            tool.append(0, 'e');
            Due.throwsState("5 bytes are too many", () -> tool.plan(0));
        });
        Sentences.test("Initially the delta has no commands, and both lengths are 0.", () -> {
            InPlaceDelta tool = new InPlaceDelta();
            Due.is("no commands", tool.commands(), 0);
            tool.plan(0);
            Due.is("the code of it", tool.encode(), 5);
            Due.is("its lengths", Tools.codeOf(tool), "73 0 0 0 73");
            tool.append(0, 1);
            Due.throwsState("an old byte is too many", () -> tool.plan(0));
        });
    }

    private static void made(String what, String old, String fresh, String commands) {
        InPlaceDelta tool = Tools.ofVersions(old, fresh);
        Due.is(what + ", the number of commands", tool.make(), commands.isEmpty() ? 0 : commands.split(";").length);
        Due.is(what, Tools.deltaOf(tool), commands);
        tool.plan(0);
        Tools.finish(tool);
        Due.is(what + ", the new version", Tools.workOf(tool), fresh);
    }

    private static void making() {
        Sentences.from("Description, Making a delta");
        Sentences.test("The target is gone through from the left.", () -> {
            made("a later match is longer", "abcd.bcdef", "abcdef", "1 0 0 4; 2 -1 4 2");
            made("two matches that overlap", "abcdef.defghijk", "abcdefghijk", "1 0 0 6; 1 10 6 5");
        });
        Sentences.test("At a position p, the match is the longest sequence of bytes of the new version from p on that "
                + "occurs in the old version", () -> {
            made("a longer one behind a shorter one", "abcdXabcde", "abcde", "1 5 0 5");
            made("a longer one before a shorter one", "abcdeXabcd", "abcde", "1 0 0 5");
            made("at the end of the old version", "XYabcd", "abcdX", "1 2 0 4; 2 -1 4 1");
            made("at the end of the new version", "abcdef", "Xabcd", "2 -1 0 1; 1 0 1 4");
            made("all of both", Tools.letters(64), Tools.letters(64), "1 0 0 64");
            made("bytes that repeat", "aaaaa", "aaaaaaaaaaaa", "1 0 0 5; 1 0 5 5; 2 -1 10 2");
            made("an empty old version", "", "abcd", "2 -1 0 4");
            made("an empty new version", "abcd", "", "");
            made("both empty", "", "", "");
        });
        Sentences.test("of several occurrences of this length the one at the smallest position is taken", () -> {
            made("three", "XabcdYabcdZabcd", "abcd", "1 1 0 4");
            made("they overlap", "aaaaaaaa", "aaaa", "1 0 0 4");
            made("two of length 5 behind one of length 4", "abcdXabcdeYabcde", "abcde", "1 5 0 5");
        });
        Sentences.test("If the match has at least 4 bytes", () -> {
            made("3 bytes", "abc", "abc", "2 -1 0 3");
            made("4 bytes", "abcd", "abcd", "1 0 0 4");
            made("3 bytes of 4", "abcd", "abcX", "2 -1 0 4");
            made("3 bytes before a COPY", "abcd", "bcdabcd", "2 -1 0 3; 1 0 3 4");
        });
    }

    private static void makingCopiesAndAdds() {
        Sentences.test("and fewer than 12 COPY commands have been made, a COPY of the match is appended, and p moves "
                + "behind it.", () -> {
            made("11 matches", "abcd", "abcd".repeat(11), copies(11));
            made("12 matches", "abcd", "abcd".repeat(12), copies(12));
            made("13 matches", "abcd", "abcd".repeat(13), copies(12) + "; 2 -1 48 4");
            made("16 matches", "abcd", "abcd".repeat(16), copies(12) + "; 2 -1 48 16");
            made("p is not within the match", "abcdebcde", "abcdebcde", "1 0 0 9");
            made("nor behind the next byte", "abcdEFGH", "EFGHabcd", "1 4 0 4; 1 0 4 4");
        });
        Sentences.test("Otherwise the byte at p joins the pending bytes, and p increases by 1.", () -> {
            made("a match that is too short hides no other", "abcd", "abcabcd", "2 -1 0 3; 1 0 3 4");
            made("the match begins at the next byte", "bcde", "abcde", "2 -1 0 1; 1 0 1 4");
            made("behind 12 COPY commands every byte", "abcd", "abcd".repeat(12) + "Xabcd", copies(12) + "; 2 -1 48 5");
        });
        Sentences.test("Before a COPY is appended, and at the end, the pending bytes (if there are any) are appended "
                + "as an ADD with their target position.", () -> {
            made("before, between and at the end", "abcd", "xyabcdzabcduvw",
                    "2 -1 0 2; 1 0 2 4; 2 -1 6 1; 1 0 7 4; 2 -1 11 3");
            made("none before, between or at the end", "abcd", "abcdabcd", "1 0 0 4; 1 0 4 4");
            made("nothing but pending bytes", "", Tools.letters(64), "2 -1 0 64");
            InPlaceDelta most = Tools.ofMade("abcd", "-abcd".repeat(12) + "-abc");
            Due.is("13 ADD and 12 COPY commands", most.commands(), 25);
            Due.is("the last one", most.command(24, 2), 60);
        });
        Sentences.test("The source length is the length of the old version, the target length that of the new one.",
                () -> {
            int[] sizes = {0, 1, 63, 64};
            for (int old : sizes) {
                for (int fresh : sizes) {
                    InPlaceDelta tool = Tools.ofMade("x".repeat(old), "y".repeat(fresh));
                    tool.plan(0);
                    tool.encode();
                    Due.is("source length " + old, tool.code(1), old);
                    Due.is("target length " + fresh, tool.code(2), fresh);
                }
            }
        });
    }

    /** As many COPY commands of "abcd", one behind the other. */
    private static String copies(int count) {
        StringBuilder text = new StringBuilder();
        for (int i = 0; i < count; i++) {
            text.append(i == 0 ? "" : "; ").append("1 0 ").append(4 * i).append(" 4");
        }
        return text.toString();
    }

    private static void conflicts() {
        Sentences.from("Description, Conflicts");
        Sentences.test("Carrying out a command in place writes to the positions from its target position to target "
                + "position + length - 1 of the file.", () -> {
            InPlaceDelta tool = Tools.ofDecoded("abcdefgh", 73, 8, 8, 2, 2, 3, 2, 'X', 'Y', 1, 0, 6, 2);
            tool.plan(0);
            tool.begin();
            tool.step();
            Due.is("the COPY writes 6 and 7", Tools.workOf(tool), "abcdefab");
            tool.step();
            Due.is("the ADD writes 3 and 4", Tools.workOf(tool), "abcXYfab");
        });
        Sentences.test("COPY i must be carried out before COPY j (i and j different) if the positions that i reads, "
                + "from its source position to source position + length - 1, and the positions that j writes have a "
                + "position in common.", () -> {
            // COPY 0 reads 10 to 12; the others write one position each and read 40, which none writes.
            InPlaceDelta ones = Tools.ofCopies(50, 10, 0, 3, 40, 9, 1, 40, 10, 1, 40, 11, 1, 40, 12, 1, 40, 13, 1);
            Due.is("just before", ones.mustPrecede(0, 1), false);
            Due.is("the first", ones.mustPrecede(0, 2), true);
            Due.is("in the middle", ones.mustPrecede(0, 3), true);
            Due.is("the last", ones.mustPrecede(0, 4), true);
            Due.is("just behind", ones.mustPrecede(0, 5), false);
            Due.is("not the other way round", ones.mustPrecede(2, 0), false);
            // COPY 0 reads 20; 1 writes 18 to 20, 2 writes 21 to 23; 3 reads 21 to 25 and 2 writes within it.
            InPlaceDelta more = Tools.ofCopies(50, 20, 0, 1, 40, 18, 3, 40, 21, 3, 20, 5, 5);
            Due.is("the last that 1 writes", more.mustPrecede(0, 1), true);
            Due.is("just before the first that 2 writes", more.mustPrecede(0, 2), false);
            Due.is("all that 2 writes", more.mustPrecede(3, 2), true);
            Due.is("one that 1 writes", more.mustPrecede(3, 1), true);
            InPlaceDelta both = Tools.ofCopies(8, 4, 0, 4, 0, 4, 4);
            Due.is("both ways, 0 before 1", both.mustPrecede(0, 1), true);
            Due.is("both ways, 1 before 0", both.mustPrecede(1, 0), true);
        });
        Sentences.test("A single COPY whose reads and writes overlap is no problem", () -> {
            InPlaceDelta tool = Tools.ofCopies(10, 0, 1, 9);
            Due.is("no conflict with itself", tool.mustPrecede(0, 0), false);
            Due.is("nothing to convert", tool.plan(0), 0);
            Due.is("no loss", tool.leastLoss(), 0);
            Due.is("the same place", Tools.ofCopies(10, 0, 0, 10).plan(2), 0);
        });
        Sentences.test("all its bytes are read before any of them is written", () -> {
            InPlaceDelta right = Tools.ofCopies(10, 0, 1, 9);
            right.plan(0);
            Tools.finish(right);
            Due.is("one to the right", Tools.workOf(right), "0012345678");
            InPlaceDelta left = Tools.ofCopies(10, 1, 0, 9);
            left.plan(0);
            Tools.finish(left);
            Due.is("one to the left", Tools.workOf(left), "1234567899");
        });
    }

    /** A delta of one ADD of one byte whose code's sum before the check byte is the given one. */
    private static void check(int sum, int due) {
        InPlaceDelta tool = Tools.ofVersions("", Character.toString((char) (sum - 78)));
        tool.make();
        tool.plan(0);
        Due.is("length", tool.encode(), 9);
        Due.is("the sum " + sum, Tools.codeOf(tool), "73 0 1 1 2 0 1 " + (sum - 78) + " " + due);
        Due.is("it is decoded", tool.decode(), 1);
    }

    private static void encoding() {
        Sentences.from("Description, Encoding");
        Sentences.test("A number from 0 to 64 is written as one byte.", () -> {
            InPlaceDelta tool = Tools.ofMade(Tools.letters(64), Tools.letters(64));
            tool.plan(0);
            Due.is("64 and 0", tool.encode(), 9);
            Due.is("the code", Tools.codeOf(tool), "73 64 64 1 1 0 0 64 " + (73 + 64 + 64 + 1 + 1 + 64) % 251);
            InPlaceDelta last = Tools.ofCopies(64, 63, 62, 1);
            last.plan(0);
            last.encode();
            Due.is("63 and 62", Tools.codeOf(last), "73 64 64 1 1 63 62 1 " + (73 + 128 + 1 + 1 + 63 + 62 + 1) % 251);
        });
        Sentences.test("An encoded delta has, in this order: the byte 73; the source length; the target length; the "
                + "number of commands; the commands; and at the end the check byte", () -> {
            InPlaceDelta tool = Tools.ofMade("abcde", "xabcde");
            tool.plan(0);
            Due.is("length", tool.encode(), 13);
            int check = (73 + 5 + 6 + 2 + 1 + 0 + 1 + 5 + 2 + 0 + 1 + 'x') % 251;
            Due.is("the code", Tools.codeOf(tool), "73 5 6 2 1 0 1 5 2 0 1 120 " + check);
            InPlaceDelta none = Tools.ofMade("abcde", "");
            none.plan(0);
            Due.is("length without commands", none.encode(), 5);
            Due.is("no commands", Tools.codeOf(none), "73 5 0 0 78");
        });
        Sentences.test("which is the sum of all bytes before it modulo 251", () -> {
            check(249, 249);
            check(250, 250);
            check(251, 0);
            check(252, 1);
            InPlaceDelta high = Tools.ofMade("", "\u00ff".repeat(64));
            high.plan(0);
            high.encode();
            int sum = 73 + 0 + 64 + 1 + 2 + 0 + 64 + 64 * 255;
            Due.is("64 bytes of 255", high.code(71), sum % 251);
        });
        Sentences.test("The code is a third buffer with at most 200 bytes, empty at first.", () -> {
            InPlaceDelta tool = new InPlaceDelta();
            Due.is("empty", tool.code(-1), 0);
            for (int i = 0; i < 200; i++) {
                Due.is("byte " + i, tool.write(i), i + 1);
            }
            Due.is("the 200th", tool.code(199), 199);
            Due.throwsState("a 201st", () -> tool.write(200));
            Due.is("it is not there", tool.code(200), InPlaceDelta.NONE);
            Due.is("the versions have room all the same", tool.append(0, 1) + tool.append(1, 1), 2);
        });
    }

    private static void encodedCommands() {
        Sentences.test("A COPY is written as the byte 1, its source position, its target position, its length.", () -> {
            InPlaceDelta tool = Tools.ofCopies(30, 3, 20, 7);
            tool.plan(0);
            tool.encode();
            Due.is("the code", Tools.codeOf(tool), "73 30 30 1 1 3 20 7 " + (73 + 30 + 30 + 1 + 1 + 3 + 20 + 7));
        });
        Sentences.test("An ADD is written as the byte 2, its target position, its length, and its bytes.", () -> {
            InPlaceDelta tool = Tools.ofDecoded("", 73, 0, 20, 1, 2, 9, 3, 0, 255, 8);
            tool.clearCode();
            tool.plan(0);
            Due.is("length", tool.encode(), 11);
            int sum = 73 + 20 + 1 + 2 + 9 + 3 + 0 + 255 + 8;
            Due.is("the code", Tools.codeOf(tool), "73 0 20 1 2 9 3 0 255 8 " + sum % 251);
        });
        Sentences.test("The commands are written in the order of the plan", () -> {
            InPlaceDelta tool = Tools.ofDecoded("0123456789", 73, 10, 10, 3, 2, 9, 1, 7, 1, 0, 4, 2, 1, 4, 6, 1);
            tool.plan(0);
            Due.is("the order", Tools.orderOf(tool), "2 1 0");
            tool.encode();
            tool.decode();
            Due.is("the commands of the code", Tools.deltaOf(tool), "1 4 6 1; 1 0 4 2; 2 -1 9 1");
        });
        Sentences.test("a converted COPY is written as an ADD", () -> {
            InPlaceDelta tool = Tools.ofMade("abcdEFGH", "EFGHabcd");
            tool.plan(0);
            Due.is("length", tool.encode(), 4 + 4 + 7 + 1);
            int sum = 73 + 8 + 8 + 2 + 1 + 0 + 4 + 4 + 2 + 0 + 4 + 'E' + 'F' + 'G' + 'H';
            Due.is("the code", Tools.codeOf(tool), "73 8 8 2 1 0 4 4 2 0 4 69 70 71 72 " + sum % 251);
        });
    }

    private static void carryingOut() {
        Sentences.from("Description, Carrying out");
        Sentences.test("The work is a copy of the old version on which the commands of the plan are carried out one by "
                + "one.", () -> {
            InPlaceDelta tool = States.circle();
            tool.plan(0);
            tool.begin();
            String[] works = {"abcde.klmno.klmno", "abcde.klmno.abcde", "fghij.klmno.abcde", "fghij-klmno.abcde",
                "fghij-klmno-abcde"};
            for (String work : works) {
                tool.step();
                Due.is("the work", Tools.workOf(tool), work);
            }
            for (int i = 0; i < 17; i++) {
                Due.is("the old version is what it was", tool.byteOf(0, i), (int) "abcde.fghij.klmno".charAt(i));
            }
        });
        Sentences.test("When the work begins, it has the bytes of the old version", () -> {
            InPlaceDelta tool = States.circle();
            tool.plan(0);
            tool.begin();
            Due.is("the work", Tools.workOf(tool), "abcde.fghij.klmno");
            InPlaceDelta full = States.fullVersions();
            full.begin();
            Due.is("64 bytes", Tools.workOf(full), Tools.letters(64));
        });
        Sentences.test("if the target length is greater, bytes 0 follow up to the target length", () -> {
            beginsWith("greater by 1", "abc", 4, "abc\0");
            beginsWith("equal", "abc", 3, "abc");
            beginsWith("64 to 0", "", 64, "\0".repeat(64));
            InPlaceDelta tool = Tools.ofMade("abcdef", "xabcd");
            tool.plan(0);
            Tools.finish(tool);
            tool.clear(0);
            tool.append(0, 'z');
            tool.make();
            tool.plan(0);
            tool.begin();
            Due.is("nothing of an earlier work", Tools.workOf(tool), "z\0\0\0\0");
        });
        Sentences.test("It has max(source length, target length) bytes then.", () -> {
            int[][] sizes = {{3, 5, 5}, {5, 3, 5}, {4, 4, 4}, {0, 1, 1}, {64, 1, 64}, {1, 64, 64}, {64, 64, 64}};
            for (int[] size : sizes) {
                InPlaceDelta tool = Tools.ofDecoded("x".repeat(size[0]), 73, size[0], size[1], 1, 2, 0, 1, 9);
                tool.plan(0);
                tool.begin();
                Due.is(size[0] + " and " + size[1], tool.workByte(-1), size[2]);
            }
        });
        Sentences.test("When the last command has been carried out (if there are no commands, at the beginning), the "
                + "work is cut to the target length.", () -> {
            InPlaceDelta tool = Tools.ofDecoded("abcdefgh", 73, 8, 3, 2, 1, 6, 0, 1, 2, 1, 1, 'Z');
            tool.plan(0);
            tool.begin();
            Due.is("not at the beginning", Tools.workOf(tool), "abcdefgh");
            tool.step();
            Due.is("not before the last one", Tools.workOf(tool), "gbcdefgh");
            tool.step();
            Due.is("behind the last one", Tools.workOf(tool), "gZc");
            beginsWith("no commands", "abcdefgh", 3, "abc");
            beginsWith("no commands and no length", "abcdefgh", 0, "");
        });
        Sentences.test("Positions that no command writes keep the bytes that they have.", () -> {
            InPlaceDelta tool = Tools.ofDecoded("abc", 73, 3, 6, 2, 2, 1, 1, 'X', 2, 4, 1, 'Y');
            tool.plan(0);
            Tools.finish(tool);
            Due.is("old bytes and zeros", Tools.workOf(tool), "aXc\0Y\0");
        });
    }

    /** The work of a delta without commands when it begins. */
    private static void beginsWith(String what, String old, int targetLength, String work) {
        InPlaceDelta tool = Tools.ofDecoded(old, 73, old.length(), targetLength, 0);
        tool.plan(0);
        Due.is(what + ", begin", tool.begin(), 0);
        Due.is(what, Tools.workOf(tool), work);
    }

    private static void undo() {
        Sentences.from("Description, Undo");
        Sentences.test("Each successful call of a method whose description says \"undoable\" saves the state from "
                + "before the call, even if the call changes nothing", () -> {
            Twin.isUndoable("patch with the same byte", States::circle, t -> t.patch(0, 0, 'a'));
            Twin.isUndoable("clear of an empty version", () -> Tools.ofVersions("abcd", ""), t -> t.clear(1));
            Twin.isUndoable("the same make", States::circle, t -> t.make());
            Twin.isUndoable("the same plan", DescriptionSentences::planned, t -> t.plan(0));
            Twin.isUndoable("the same encode", States::underWay, t -> t.encode());
            Twin.isUndoable("clearCode of an empty code", States::circle, t -> t.clearCode());
            Twin.isUndoable("the same decode", States::twelveCopies, t -> t.decode());
            Twin.isUndoable("begin of the same work", DescriptionSentences::begun, t -> t.begin());
            Twin.isUndoable("a COPY to where it lies", DescriptionSentences::lying, t -> t.step());
            Twin.refusesArgument("a call that fails", States::underWay, t -> t.plan(3));
            Twin.changesNothing("a decode with a fault", States::fullCode, t -> t.decode(), -10);
        });
        Sentences.test("at most 4 states are saved, and the oldest is dropped first", () -> {
            for (int calls = 0; calls <= 9; calls++) {
                int saved = Math.min(calls, 4);
                InPlaceDelta tool = new InPlaceDelta();
                for (int i = 0; i < calls; i++) {
                    tool.write(i);
                }
                for (int left = saved - 1; left >= 0; left--) {
                    Due.is("undo behind " + calls + " calls", tool.undo(), left);
                    Due.is("the code then", tool.code(-1), calls - saved + left);
                }
                Due.throwsState("no more behind " + calls + " calls", () -> tool.undo());
            }
        });
        Sentences.test("The saved state contains the versions, the delta, the plan, the code and the work.", () -> {
            InPlaceDelta tool = States.underWay();
            long before = tool.digest();
            tool.clear(0);
            tool.clear(1);
            tool.make();
            tool.clearCode();
            for (int left = 3; left >= 0; left--) {
                Due.is("undo", tool.undo(), left);
            }
            Due.is("all of them", tool.digest(), before - 4);
            Due.is("the old version", tool.byteOf(0, 16), (int) 'o');
            Due.is("the new version", tool.byteOf(1, 16), (int) 'e');
            Due.is("the delta", Tools.deltaOf(tool), "1 6 0 5; 2 -1 5 1; 1 12 6 5; 2 -1 11 1; 1 0 12 5");
            Due.is("the plan", Tools.orderOf(tool), "2 4 0 1 3");
            Due.is("its loss", tool.loss(), 5);
            Due.is("the code", tool.code(-1), 4 + 4 + 4 + 8 + 4 + 4 + 1);
            Due.is("the work", Tools.workOf(tool), "abcde.klmno.klmno");
            Due.is("which goes on", tool.step(), 3);
            InPlaceDelta other = States.star();
            other.encode();
            other.begin();
            other.clear(0);
            Tools.appendAll(other, 0, "x");
            other.undo();
            other.undo();
            Due.is("a plan of before", other.loss(), 5);
            other.make();
            other.clear(0);
            other.make();
            other.plan(1);
            for (int i = 0; i < 4; i++) {
                other.undo();
            }
            Due.is("the order of before", Tools.orderOf(other), "4 0 1 2 3");
            Due.is("the set of before", other.converted(), 9);
            Due.is("the loss of before", other.loss(), 5);
            Due.is("the work of before", Tools.workOf(other), "0123456789");
        });
    }

    private static InPlaceDelta planned() {
        InPlaceDelta tool = States.circle();
        tool.plan(0);
        return tool;
    }

    private static InPlaceDelta begun() {
        InPlaceDelta tool = planned();
        tool.begin();
        return tool;
    }

    /** A work whose first command copies bytes to where they lie; a second one is left behind it. */
    private static InPlaceDelta lying() {
        InPlaceDelta tool = Tools.ofMade("abcd", "abcdX");
        tool.plan(0);
        tool.begin();
        return tool;
    }

    private static void constants() {
        Sentences.from("Description, The constants");
        Sentences.test("NONE = -1: There is no such thing.", () -> {
            Due.is("NONE", InPlaceDelta.NONE, -1);
            Due.is("the source position of an ADD", Tools.ofMade("", "a").command(0, 1), -1);
        });
    }
}

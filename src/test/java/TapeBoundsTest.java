/** Section 1 up to the tokens: the tape, blanks, words, numbers and symbols at their bounds. */
public final class TapeBoundsTest {
    private static final String S = "source s(a, b) ";
    private static final String[] KEYWORDS = ("source delay step keep where make with pick merge join on within first by window "
            + "every late check else drop hold stop sum count least most last time and or not abs").split(" ");

    private TapeBoundsTest() {
    }

    public static void main(String[] args) {
        tapeIsEmptyAtFirst();
        feedAppendsTwentyBytes();
        feedUpTo1500();
        programOf1500Bytes();
        longestTapeIsFound();
        tapeIsEmptyBehindCompileAndFind();
        trimUpToTheTape();
        trimKeepsTheFirstBytes();
        blanksAndLineEnds();
        blanksAtBothEnds();
        blanksBetweenWords();
        longestTokenIsRead();
        firstByteOfAWord();
        furtherBytesOfAWord();
        wordsOfEightBytes();
        wordsAreToldApartByAllBytes();
        bytesOfANumber();
        numbersOfNineDigits();
        keywordsAreNoNames();
        nextToKeywords();
        bytesWithWhichNoTokenBegins();
        nameFoundByAllItsBytes();
        Due.end();
    }

    private static String bytes(int sign) {
        return String.valueOf((char) sign);
    }

    private static boolean isLetter(int sign) {
        return sign >= 97 && sign <= 122;
    }

    private static boolean isDigit(int sign) {
        return sign >= 48 && sign <= 57;
    }

    private static boolean isBlank(int sign) {
        return sign == 32 || sign == 10;
    }

    private static void tapeIsEmptyAtFirst() {
        Due.sentence("The tape is a row of at most 1500 bytes, at first empty");
        StreamDesk desk = new StreamDesk();
        Due.equal("bytes of a new tape", desk.count(2), 0);
        Due.thrown(desk, "trim(1) of a new tape", IllegalArgumentException.class, () -> desk.trim(1));
        Due.equal("compile of a new tape", desk.compile(), 1);
        Due.equal("errorAt of a new tape", desk.errorAt(), 0);
        Due.equal("find by a new tape", new StreamDesk().find(), -1);
    }

    /** A byte of its own at each of the twenty places. */
    private static void feedAppendsTwentyBytes() {
        Due.sentence("Appends twenty bytes to the tape: the four bytes of each number, the highest one first.");
        for (int at = 0; at < 20; at++) {
            for (int sign : new int[] {'#', 0, 127, 128, 255}) {
                int[] n = new int[5];
                for (int i = 0; i < 20; i++) {
                    n[i / 4] |= (i == at ? sign : ' ') << 24 - i % 4 * 8;
                }
                StreamDesk desk = new StreamDesk();
                Due.equal("feed", desk.feed(n[0], n[1], n[2], n[3], n[4]), 20);
                Due.equal("compile", desk.compile(), 1);
                Due.equal("errorAt byte " + sign, desk.errorAt(), at);
            }
        }
        StreamDesk desk = new StreamDesk();
        desk.feed(0x736f7572, 0x63652061, 0x62636465, 0x66676828, 0x6b292020);
        Due.equal("compile of source abcdefgh(k)", desk.compile(), 0);
        desk.feed(0x61626364, 0x65666768, 0, 0, 0);
        desk.trim(8);
        Due.equal("find abcdefgh", desk.find(), 0);
    }

    private static void fill(StreamDesk desk, int feeds) {
        for (int i = 0; i < feeds; i++) {
            desk.feed(0x20202020, 0x20202020, 0x20202020, 0x20202020, 0x20202020);
        }
    }

    private static void feedUpTo1500() {
        Due.sentence("Throws IllegalStateException if there would be more than 1500");
        for (int length : new int[] {1460, 1479, 1480}) {
            StreamDesk desk = new StreamDesk();
            fill(desk, 74);
            desk.trim(length);
            Due.equal("feed to " + length, desk.feed(1, 2, 3, 4, 5), length + 20);
            Due.equal("bytes", desk.count(2), length + 20);
        }
        for (int length : new int[] {1481, 1482, 1499, 1500}) {
            StreamDesk desk = new StreamDesk();
            fill(desk, 75);
            desk.trim(length);
            Due.thrown(desk, "feed to " + length, IllegalStateException.class, () -> desk.feed(1, 2, 3, 4, 5));
            Due.equal("bytes", desk.count(2), length);
            desk.compile();
            Due.equal("nothing was appended: the end is the error", desk.errorAt(), length);
        }
    }

    private static void programOf1500Bytes() {
        Due.sentence("The tape is a row of at most 1500 bytes");
        String program = "source s(a)";
        for (int length : new int[] {11, 12, 1479, 1480, 1481, 1499, 1500}) {
            String blanks = " ".repeat(length - program.length());
            Verdict.right(blanks + program);
            Verdict.right(program + blanks);
            Verdict.right("source s(" + blanks + "a)");
            Verdict.wrong(1, blanks + "source s(a^");
            Verdict.wrong(1, blanks + "source s(a^#");
            Verdict.wrong(1, "source s(a" + blanks + "^");
        }
        Verdict.wrong(1, "^" + "a".repeat(1500));
        Verdict.wrong(1, "^" + "1".repeat(1500));
        Verdict.wrong(1, "^" + "(".repeat(1500));
        Verdict.wrong(1, "source s(^" + "a".repeat(1491));
        String checks = "source s(a)" + "check s:1else drop ".repeat(78);
        Verdict.wrongAt(4, 11 + 8 * 19, checks + " ".repeat(1500 - checks.length()));
        Verdict.wrongAt(5, 11, "source s(a" + ",a".repeat(744) + ")" + " ");
        longestProgramAtWork();
    }

    private static void longestProgramAtWork() {
        String sum = "a" + "+a".repeat(29);
        String head = "source s(a)step t=make s with c=" + sum + ",d=" + sum + ",e=" + sum + ",f=" + sum + ",g=" + sum;
        StringBuilder program = new StringBuilder(head);
        for (int i = 0; i < 8; i++) {
            program.append(" check t:").append(sum).append(" else hold");
        }
        program.append(" step u=keep t where ").append(sum).append(" step v=keep u where ").append(sum)
                .append(" step w=keep v where ").append(sum).append(" step x=keep w where ").append(sum);
        Due.yes("a long program", program.length() > 1200 && program.length() <= 1500);
        while (program.length() < 1500) {
            program.insert(11, ' ');
        }
        StreamDesk desk = Feed.desk(program.toString());
        Due.equal("push", Feed.push(desk, 0, 0, 2), 6);
        Rows.equal(desk, 5, new long[] {0, 2, 60, 60, 60, 60, 60});
        Due.equal("push", Feed.push(desk, 0, 0, 0), 1);
        Rows.heldEqual(desk, 0, 1, 0, 0, 0, 0);
    }

    private static void longestTapeIsFound() {
        Due.sentence("Returns the number of the stream whose name the tape is; -1 if there is none.");
        StreamDesk desk = Feed.desk("source a(a) source abcdefgh(a)");
        String[] texts = {"abcdefgh".repeat(187), "a".repeat(1500), "a" + " ".repeat(1499), " ".repeat(1499) + "a",
            "a" + "\u0000".repeat(8), "\u0000".repeat(8) + "a", "abcdefgh ", "abcdefghabcdefgh"};
        for (String text : texts) {
            Feed.text(desk, text);
            Due.equal("find by " + text.length() + " bytes", desk.find(), -1);
            Due.equal("bytes behind find", desk.count(2), 0);
        }
        Feed.text(desk, "abcdefgh");
        Due.equal("find abcdefgh", desk.find(), 1);
        Feed.text(desk, "a");
        Due.equal("find a", desk.find(), 0);
    }

    private static void tapeIsEmptyBehindCompileAndFind() {
        Due.sentence("compile and find read it, and it is empty behind each of these.");
        StreamDesk desk = new StreamDesk();
        String[] programs = {"source s(a)", "source s(", "source s(a, a)", "", " ", "#"};
        for (String program : programs) {
            Feed.compile(desk, program);
            Due.equal("bytes behind compile of " + program, desk.count(2), 0);
        }
        String[] names = {"s", "t", "", "not a name", "#"};
        for (String name : names) {
            Feed.text(desk, name);
            desk.find();
            Due.equal("bytes behind find of " + name, desk.count(2), 0);
        }
        fill(desk, 75);
        desk.compile();
        Due.equal("feed behind a full tape", desk.feed(1, 2, 3, 4, 5), 20);
        desk.find();
        fill(desk, 75);
        Due.equal("find by a full tape", desk.find(), -1);
        Due.equal("feed behind a full tape", desk.feed(1, 2, 3, 4, 5), 20);
    }

    private static void trimUpToTheTape() {
        Due.sentence("Throws IllegalArgumentException if n is not 0 to the number of bytes of the tape");
        for (int feeds : new int[] {0, 1, 74, 75}) {
            int length = feeds * 20;
            for (int n : new int[] {Integer.MIN_VALUE, -1500, -1, length + 1, length + 20, 1501, Integer.MAX_VALUE}) {
                StreamDesk desk = new StreamDesk();
                fill(desk, feeds);
                Due.thrown(desk, "trim(" + n + ") of " + length, IllegalArgumentException.class, () -> desk.trim(n));
                Due.equal("bytes", desk.count(2), length);
            }
            for (int n : new int[] {0, Math.min(1, length), Math.max(0, length - 1), length}) {
                StreamDesk desk = new StreamDesk();
                fill(desk, feeds);
                Due.equal("trim(" + n + ") of " + length, desk.trim(n), n);
                Due.equal("bytes", desk.count(2), n);
                Due.thrown(desk, "trim behind trim(" + n + ")", IllegalArgumentException.class, () -> desk.trim(n + 1));
            }
        }
    }

    private static void trimKeepsTheFirstBytes() {
        Due.sentence("Shortens the tape to its first bytes. n: how many are kept");
        StreamDesk desk = new StreamDesk();
        Feed.text(desk, "source s(a)#");
        Due.equal("trim(12)", desk.trim(12), 12);
        Due.equal("compile of 12 bytes", desk.compile(), 1);
        Due.equal("errorAt", desk.errorAt(), 11);
        Feed.text(desk, "source s(a)#");
        Due.equal("trim(11)", desk.trim(11), 11);
        Due.equal("compile of 11 bytes", desk.compile(), 0);
        Feed.text(desk, "source s(a)#");
        Due.equal("trim(10)", desk.trim(10), 10);
        Due.equal("compile of 10 bytes", desk.compile(), 1);
        Due.equal("errorAt", desk.errorAt(), 10);
        Feed.text(desk, "sour");
        Feed.text(desk, "ce s(a)");
        Due.equal("compile of what was fed in two parts", desk.compile(), 0);
        // what was cut off does not come again
        Feed.text(desk, "source s(abc)");
        desk.trim(10);
        Feed.text(desk, ")");
        Due.equal("compile of source s(a)", desk.compile(), 0);
    }

    /** Each byte between two words: it parts them, or is read as a part of them, or no token begins with it. */
    private static void blanksAndLineEnds() {
        Due.sentence("Blanks (32) and line ends (10) can stand between tokens");
        for (int sign = 0; sign < 256; sign++) {
            String program = "source" + bytes(sign) + "s(a)";
            if (isBlank(sign)) {
                Verdict.right(program);
            } else {
                Verdict.wrongAt(1, isLetter(sign) || isDigit(sign) ? 0 : 6, program);
            }
        }
    }

    private static void blanksAtBothEnds() {
        Due.sentence("at the beginning and at the end");
        for (int sign : new int[] {9, 10, 11, 13, 31, 32, 33, 160}) {
            if (isBlank(sign)) {
                Verdict.right(bytes(sign) + "source s(a)");
                Verdict.right("source s(a)" + bytes(sign));
                Verdict.right(bytes(sign) + bytes(sign) + "source s(a)" + bytes(sign) + bytes(sign));
            } else {
                Verdict.wrongAt(1, 0, bytes(sign) + "source s(a)");
                Verdict.wrongAt(1, 11, "source s(a)" + bytes(sign));
            }
        }
    }

    private static void blanksBetweenWords() {
        Due.sentence("and have to stand between two tokens that would otherwise be read as one");
        Verdict.right("source s(a) delay 5");
        Verdict.right("source s(a)delay 5");
        Verdict.wrong(1, "source s(a)^delay5");
        Verdict.wrong(1, "^sources(a)");
        Verdict.right("source s(a) delay 5step t=keep s where 1");
        Verdict.wrong(1, "source s(a) delay 5 step t=keep s ^where1");
        Verdict.right("source s(a) step t=keep s where 1check t:1else drop");
        Verdict.right(S + "check s: not a = 1 else drop");
        Verdict.wrong(2, S + "check s: ^nota = 1 else drop");
        Verdict.right(S + "check s: 1and 2or 3else drop");
        Verdict.wrong(1, S + "check s: 1 ^and2 else drop");
        Verdict.wrong(1, S + "check s: 12 ^3 else drop");
        Verdict.right(S + "check s: 123 else drop");
        Verdict.wrong(2, S + "check s: ^ab else drop");
        Verdict.wrong(1, S + "check s: a ^b else drop");
        Verdict.right(S + "check s:a<=b else drop");
        Verdict.wrong(1, S + "check s: a< ^=b else drop");
        Verdict.wrong(1, S + "check s: a<\n^>b else drop");
        Verdict.wrong(1, S + "check s: a> ^=b else drop");
    }

    private static void longestTokenIsRead() {
        Due.sentence("The longest possible token is always read.");
        Verdict.right(S + "check s:a<b else drop");
        Verdict.right(S + "check s:a<>b else drop");
        Verdict.right(S + "check s:a>=b else drop");
        Verdict.right(S + "check s:a<-b else drop");
        Verdict.right(S + "check s:a>-b else drop");
        Verdict.right(S + "check s:a=-b else drop");
        Verdict.wrong(1, S + "check s:a<^<b else drop");
        Verdict.wrong(1, S + "check s:a>^>b else drop");
        Verdict.wrong(1, S + "check s:a>^<b else drop");
        Verdict.wrong(1, S + "check s:a=^<b else drop");
        Verdict.wrong(1, S + "check s:a=^>b else drop");
        Verdict.wrong(1, S + "check s:a=^=b else drop");
        Verdict.wrong(1, S + "check s:a<=^>b else drop");
        Verdict.wrong(1, S + "check s:a<>^=b else drop");
        Verdict.wrong(1, S + "check s:a<=^=b else drop");
        Verdict.wrong(1, S + "check s:a<^");
        Verdict.wrong(1, S + "check s:a<>^");
        Verdict.wrong(1, S + "check s:a>=^");
        Verdict.wrong(1, S + "check s:a>^");
        Verdict.wrong(1, S + "check s:a<^!b else drop");
        // a symbol of two bytes whose second one was cut off
        StreamDesk desk = new StreamDesk();
        Feed.text(desk, S + "check s:a<=");
        desk.trim(25);
        Feed.text(desk, "b else drop");
        Due.equal("compile of a<b", desk.compile(), 0);
        // the bytes behind the end of the tape are no part of it
        Feed.text(desk, S + "check s:a<=b else dropx");
        desk.trim(37);
        Due.equal("compile, cut behind drop", desk.compile(), 0);
    }

    private static void firstByteOfAWord() {
        Due.sentence("A word: a letter a to z, followed by ..");
        for (int sign = 0; sign < 256; sign++) {
            String program = "source " + bytes(sign) + "(a)";
            if (isLetter(sign)) {
                Verdict.right(program);
            } else {
                Verdict.wrongAt(1, isBlank(sign) ? 8 : 7, program);
            }
        }
    }

    private static void furtherBytesOfAWord() {
        Due.sentence("followed by letters a to z and digits");
        for (int sign = 0; sign < 256; sign++) {
            String program = "source s" + bytes(sign) + "(a)";
            if (isLetter(sign) || isDigit(sign) || isBlank(sign)) {
                Verdict.right(program);
            } else {
                Verdict.wrongAt(1, sign == '(' ? 9 : 8, program);
            }
            if (isLetter(sign) || isDigit(sign)) {
                Due.yes("find by s and byte " + sign, isFound("s" + bytes(sign)));
            }
        }
    }

    private static boolean isFound(String name) {
        StreamDesk desk = Feed.desk("source " + name + "(a)");
        Feed.text(desk, name);
        return desk.find() == 0;
    }

    private static void wordsOfEightBytes() {
        Due.sentence("at most 8 bytes in all; a word that is too long");
        for (String word : new String[] {"a", "abcdefg", "abcdefgh", "a1234567", "zzzzzzzz", "a0000000"}) {
            Verdict.right("source " + word + "(a)");
            Verdict.right("source s(" + word + ") check s: " + word + " else drop");
            Due.yes("find " + word, isFound(word));
        }
        for (String word : new String[] {"abcdefghi", "a12345678", "abcdefghabcdefgh", "zzzzzzzzz", "sourcesource", "a".repeat(256)}) {
            Verdict.wrong(1, "source ^" + word + "(a)");
            Verdict.wrong(1, "source s(^" + word + ")");
            Verdict.wrong(1, "source s(a, " + "^" + word + ") check s: " + word + " else drop");
            Verdict.wrong(1, S + "check s: a + ^" + word + " else drop");
            Verdict.wrong(1, S + "check s: a + 1 else drop ^" + word);
        }
        Verdict.wrong(1, "source abcdefgh(a) step t = keep ^abcdefghi where 1");
        Verdict.wrong(1, "source abcdefgh(a) step t = keep ^xabcdefgh where 1");
        Verdict.wrong(1, "source s(abcdefgh) check s: ^abcdefghabcdefgh else drop");
        Verdict.wrong(1, "source s(abcdefgh) check s: ^xabcdefgh else drop");
        Verdict.wrong(1, "source s(a) check s: ^xxwithabs(a) else drop");
        Verdict.wrong(1, "^aaaaaaaasource s(a)");
        Verdict.wrong(1, "^bbsource s(a)");
    }

    private static void wordsAreToldApartByAllBytes() {
        Due.sentence("A word: .. at most 8 bytes in all: all of them tell it from others");
        Verdict.right("source abcdefgh(a) source abcdefgi(a) source bbcdefgh(a) source abcdefg(a) source bcdefgh(a) source abcd0fgh(a)");
        Verdict.wrong(5, "source abcdefgh(a) source ^abcdefgh(a)");
        Verdict.right("source s(a, a0, a00, a01, a1, aa)");
        Verdict.wrong(5, "source s(a, a0, a00, a01, a1, ^a00)");
        Verdict.wrong(2, "source abcdefgh(a) step t = keep ^abcdefg where 1");
        Verdict.wrong(2, "source abcdefgh(a) step t = keep ^bcdefgh where 1");
        Verdict.wrong(2, "source s(a0) check s: ^a else drop");
        Verdict.wrong(2, "source s(a0) check s: ^a00 else drop");
    }

    private static void bytesOfANumber() {
        Due.sentence("A number: 1 to 9 digits.");
        for (int sign = 0; sign < 256; sign++) {
            String program = "source s(a) delay 1" + bytes(sign);
            if (isDigit(sign) || isBlank(sign)) {
                Verdict.right(program);
            } else {
                Verdict.wrongAt(1, 19, program);
            }
            String first = "source s(a) delay " + bytes(sign);
            if (isDigit(sign)) {
                Verdict.right(first);
            } else {
                Verdict.wrongAt(1, isBlank(sign) ? 19 : 18, first);
            }
        }
        StreamDesk desk = Feed.desk("source s(a) step t = make s with b = 0, c = 1, d = 987654321, e = 123456789, f = 100000000");
        Feed.push(desk, 0, 0, 5);
        Rows.equal(desk, 1, new long[] {0, 5, 0, 1, 987654321, 123456789, 100000000});
    }

    private static void numbersOfNineDigits() {
        Due.sentence("A number: 1 to 9 digits; a number that is too long");
        Verdict.right("source s(a) delay 5");
        Verdict.right("source s(a) delay 00000005");
        Verdict.right("source s(a) delay 000000005");
        Verdict.wrong(1, "source s(a) delay ^0000000005");
        Verdict.wrong(1, "source s(a) delay ^0000000000");
        Verdict.right(S + "check s: 99999999 else drop");
        Verdict.right(S + "check s: 999999999 else drop");
        Verdict.wrong(1, S + "check s: ^9999999999 else drop");
        Verdict.wrong(1, S + "check s: ^1000000000 else drop");
        Verdict.wrong(1, S + "check s: a + ^18446744073709551617 else drop");
        Verdict.wrong(1, "source s(a) delay ^4294967296");
        Verdict.wrong(1, "source s(a) delay ^18446744073709551616");
        StreamDesk desk = Feed.desk("source s(a) step t = make s with b = 99999999, c = 999999999, d = 000000007, e = 000000000, f = 08");
        Feed.push(desk, 0, 0, 5);
        Rows.equal(desk, 1, new long[] {0, 5, 99999999, 999999999, 7, 0, 8});
    }

    private static void keywordsAreNoNames() {
        Due.sentence("The keywords are: .. All other words are names.");
        for (String word : KEYWORDS) {
            Verdict.wrong(1, "source ^" + word + "(a)");
            Verdict.wrong(1, "source s(^" + word + ")");
            Verdict.wrong(1, S + "step t = keep ^" + word + " where 1");
            Verdict.wrong(1, S + "step t = make s with ^" + word + " = 1");
            StreamDesk desk = new StreamDesk();
            Feed.text(desk, word);
            Due.equal("find " + word + " on a new desk", desk.find(), -1);
        }
    }

    /** One letter more, one letter less, another letter, or a digit behind it: no keyword any more. */
    private static void nextToKeywords() {
        Due.sentence("All other words are names.");
        for (String word : KEYWORDS) {
            String less = word.substring(0, word.length() - 1);
            String behind = word.substring(1);
            for (String name : new String[] {word + "x", "x" + word, word + "0", less, behind, less + "q", "q" + behind}) {
                Verdict.right("source " + name + "(" + name + ") step t = keep " + name + " where " + name);
            }
        }
        Verdict.right("source begin(begin) step t = keep begin where begin");
    }

    private static void bytesWithWhichNoTokenBegins() {
        Due.sentence("This includes a byte with which no token begins");
        String operators = "+-*/%<>=";
        for (int sign = 0; sign < 256; sign++) {
            String program = S + "check s: a " + bytes(sign) + " b else drop";
            if (operators.indexOf(sign) >= 0) {
                Verdict.right(program);
            } else {
                Verdict.wrongAt(1, S.length() + (isBlank(sign) ? 13 : 11), program);
            }
        }
        for (int sign = 0; sign < 256; sign++) {
            if (isBlank(sign)) {
                continue;
            }
            Verdict.wrongAt(1, 0, bytes(sign) + " source s(a)");
            Verdict.wrongAt(1, 12, "source s(a) " + bytes(sign));
        }
    }

    /** A tape that is no word is no stream's name, whatever its bytes are. */
    private static void nameFoundByAllItsBytes() {
        Due.sentence("find: the number of the stream whose name the tape is; -1 if there is none");
        StreamDesk desk = Feed.desk("source s(a) source ss(a) step s1 = keep s where 1");
        for (int sign = 0; sign < 256; sign++) {
            Feed.text(desk, bytes(sign));
            Due.equal("find byte " + sign, desk.find(), sign == 's' ? 0 : -1);
            Feed.text(desk, "s" + bytes(sign));
            Due.equal("find s and byte " + sign, desk.find(), sign == 's' ? 1 : sign == '1' ? 2 : -1);
            Feed.text(desk, bytes(sign) + "s");
            Due.equal("find byte " + sign + " and s", desk.find(), sign == 's' ? 1 : -1);
        }
        Due.equal("find of nothing", desk.find(), -1);
    }
}

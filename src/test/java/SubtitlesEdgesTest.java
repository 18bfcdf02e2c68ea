/** Promises 9 to 15: a method for each sentence that names a boundary case. */
public final class SubtitlesEdgesTest {
    private static final int BAD = -1, FULL = -3, NONE = -9;
    private static final int LEAST = Integer.MIN_VALUE, GREATEST = Integer.MAX_VALUE;
    private static final String FORTY = Make.FORTY;
    private static final Check check = new Check();

    public static void main(String[] args) {
        typeAppends();
        typeByte();
        typeReturns();
        typeFull();
        clearEmpties();
        clearReturns();
        addOfOnePart();
        addBufferStays();
        addTimes();
        addSpeaker();
        addNumber();
        addBad();
        addFull();
        addFirstWrongBlank();
        addEmptyBuffer();
        addFullGoesAhead();
        dropRemoves();
        dropReturns();
        dropBad();
        moveInTime();
        moveNumber();
        moveBad();
        subtitleTimes();
        subtitleParts();
        subtitleCharacters();
        subtitleReadingLength();
        subtitleFaults();
        subtitleNext();
        subtitleBad();
        partSpeaker();
        partBytes();
        partFirstLine();
        partRank();
        partByte();
        partNone();
        partBad();
        check.end("SubtitlesEdgesTest");
    }

    private static CutConformer withText(String text) {
        CutConformer x = new CutConformer();
        Check.add(x, 10, 20, 0, text);
        return x;
    }

    /** One subtitle of two parts, of the speakers 0 and 3. */
    private static CutConformer pair(String one, String two) {
        CutConformer x = withText(one);
        Check.add(x, 10, 20, 3, two);
        x.conform(2);
        return x;
    }

    private static CutConformer full() {
        CutConformer x = new CutConformer();
        x.type('a');
        for (int i = 0; i < 16; i++) x.add(10 * i, 10 * i + 5, 0);
        return x;
    }

    private static void typeAppends() {
        check.sentence("Promise 9", "Appends a byte to the text buffer.");
        CutConformer x = new CutConformer();
        for (int k = 0; k < 40; k++) x.type('A' + k);
        x.add(1, 2, 0);
        for (int k = 0; k < 40; k++) check.due("byte " + k, x.part(0, 0, 10 + k), 'A' + k);
        check.due("no change", x.told(11), 1);
    }

    private static void typeByte() {
        check.sentence("Promise 9", "`c`: the byte, 32 to 126");
        CutConformer x = new CutConformer();
        for (int c : new int[] {31, 127, 0, -1, 10, 128, 255, 288, LEAST, GREATEST}) check.due("" + c, x.type(c), BAD);
        check.due("nothing is typed", x.told(10), 0);
        check.due("33", x.type(33), 1);
        check.due("32", x.type(32), 2);
        check.due("126", x.type(126), 3);
        x.add(1, 2, 0);
        check.due("the blank", x.part(0, 0, 11), 32);
        check.due("the greatest byte", x.part(0, 0, 12), 126);
    }

    private static void typeReturns() {
        check.sentence("Promise 9", "Returns how many bytes it has then");
        CutConformer x = new CutConformer();
        for (int k = 1; k <= 40; k++) check.due("byte " + k, x.type('b'), k);
        x.clear();
        check.due("the first one again", x.type('b'), 1);
    }

    private static void typeFull() {
        check.sentence("Promise 9", "FULL if it has 40.");
        CutConformer x = new CutConformer();
        for (int k = 0; k < 40; k++) x.type('b');
        check.due("a 41st", x.type('c'), FULL);
        check.due("a 41st that is a blank", x.type(32), FULL);
        check.due("a wrong 41st", x.type(31), BAD);
        check.due("still 40", x.told(10), 40);
        x.add(1, 2, 0);
        check.due("the last byte", x.part(0, 0, 49), 'b');
        check.due("none behind it", x.part(0, 0, 50), NONE);
    }

    private static void clearEmpties() {
        check.sentence("Promise 10", "Empties the text buffer.");
        CutConformer x = withText("abc");
        x.clear();
        check.due("told", x.told(10), 0);
        check.due("no text to add", x.add(1, 2, 0), -10);
        check.due("the subtitle keeps its text", x.part(0, 0, 12), 'c');
        x.type('z');
        x.add(30, 40, 0);
        check.due("nothing of the old text", x.part(1, 0, 1), 1);
        check.due("no change", x.told(11), 2);
        for (String old : new String[] {"a  b", "ab ", "     ", "b".repeat(39) + " "}) {
            CutConformer y = new CutConformer();
            Check.write(y, old);
            check.due("a right text after '" + old + "'", Check.add(y, 1, 2, 0, "c"), 0);
            check.due("its bytes", y.part(0, 0, 1), 1);
        }
    }

    private static void clearReturns() {
        check.sentence("Promise 10", "Returns how many bytes it had.");
        CutConformer x = new CutConformer();
        check.due("none", x.clear(), 0);
        x.type('a');
        check.due("one", x.clear(), 1);
        check.due("none again", x.clear(), 0);
        Check.write(x, FORTY);
        check.due("40", x.clear(), 40);
    }

    private static void addOfOnePart() {
        check.sentence("Promise 11", "Adds a subtitle of one part");
        CutConformer x = withText("abc");
        check.due("parts", x.subtitle(0, 2), 1);
        check.due("no second part", x.part(0, 1, 0), NONE);
        CutConformer y = pair("abc", "def");
        y.undo();
        y.undo();
        y.drop(0);
        y.add(50, 60, 1);
        check.due("a row that held two parts", y.subtitle(0, 2), 1);
        check.due("its characters", y.subtitle(0, 3), 3);
    }

    private static void addBufferStays() {
        check.sentence("Promise 11", "whose text is the text buffer, which stays");
        CutConformer x = withText("a");
        check.due("one byte: the buffer", x.told(10), 1);
        check.due("one byte: the text", x.part(0, 0, 1), 1);
        CutConformer y = withText(FORTY);
        check.due("40 bytes: the buffer", y.told(10), 40);
        check.due("once more", y.add(50, 60, 0), 1);
        check.holds("40 bytes: the text", Check.text(y, 1, 0).equals(FORTY));
        x.type('b');
        check.due("typed later", x.part(0, 0, 1), 1);
    }

    private static void addTimes() {
        check.sentence("SUBTITLES", "(0 <= first frame < end <= 9999)");
        CutConformer x = new CutConformer();
        x.type('a');
        check.due("the widest", x.add(0, 9999, 0), 0);
        check.due("the first frame", x.add(0, 1, 0), 1);
        check.due("the last frame", x.add(9998, 9999, 0), 2);
        int[][] wrong = {{-1, 1}, {-1, 0}, {0, 0}, {0, 10000}, {9999, 9999}, {9999, 10000}, {9998, 9998}, {1, 0},
            {10000, 10001}, {LEAST, 5}, {5, LEAST}, {5, GREATEST}, {GREATEST, 5}, {LEAST, GREATEST}};
        for (int[] w : wrong) check.due(w[0] + " to " + w[1], x.add(w[0], w[1], 0), BAD);
        check.due("subtitles", x.told(8), 3);
    }

    private static void addSpeaker() {
        check.sentence("Promise 11", "`speaker`: 0 to 3");
        CutConformer x = new CutConformer();
        x.type('a');
        for (int s = 0; s <= 3; s++) {
            x.add(10 * s, 10 * s + 5, s);
            check.due("speaker " + s, x.part(s, 0, 0), s);
        }
        for (int s : new int[] {-1, 4, LEAST, GREATEST}) check.due("speaker " + s, x.add(1, 2, s), BAD);
    }

    private static void addNumber() {
        check.sentence("Promise 11", "Returns its number");
        CutConformer x = Make.cut();
        check.due("of none", x.add(50, 60, 0), 0);
        check.due("ahead", x.add(49, 60, 0), 0);
        check.due("behind", x.add(51, 52, 0), 2);
        check.due("between", x.add(50, 51, 0), 2);
        check.due("behind all with its first frame", x.add(49, 50, 0), 1);
        CutConformer y = full();
        y.drop(15);
        check.due("the last of 16", y.add(9998, 9999, 0), 15);
        y.drop(15);
        check.due("the first of 16", y.add(0, 9, 0), 1);
        y.drop(0);
        y.drop(0);
        check.due("ahead of all", y.add(9, 10, 0), 0);
    }

    private static void addBad() {
        check.sentence("Promise 11", "BAD if an argument is out of range or first is not less than end");
        CutConformer x = Make.timed(0, 10, 20);
        check.due("first below", x.add(-1, 20, 0), BAD);
        check.due("end above", x.add(10, 10000, 0), BAD);
        check.due("speaker below", x.add(10, 20, -1), BAD);
        check.due("speaker above", x.add(10, 20, 4), BAD);
        check.due("first is end", x.add(10, 10, 0), BAD);
        check.due("first is behind end", x.add(11, 10, 0), BAD);
        check.due("first is just before end", x.add(9, 10, 0), 0);
        x.clear();
        check.due("wrong, and no text", x.add(10, 10, 0), BAD);
        x.type(32);
        check.due("wrong, and a wrong text", x.add(10, 20, 4), BAD);
    }

    private static void addFull() {
        check.sentence("Promise 11", "FULL if there are 16 subtitles");
        CutConformer x = full();
        check.due("a 17th", x.add(1, 2, 0), FULL);
        check.due("a wrong 17th", x.add(2, 2, 0), BAD);
        check.due("subtitles", x.told(8), 16);
        x.drop(7);
        check.due("the 16th again", x.add(71, 72, 0), 7);
        check.due("and full again", x.add(1, 2, 0), FULL);
    }

    private static void addFirstWrongBlank() {
        check.sentence("Promise 11", "-10 minus the index of the first blank that cannot stand there (the first or the last byte, "
            + "or a blank behind a blank)");
        String[] texts = {" ", " a", "a ", "a b ", "a  b", "a  ", "  a", "a b  c  d", "ab   c", " a  b "};
        int[] want = {-10, -10, -11, -13, -12, -12, -10, -14, -13, -10};
        for (int k = 0; k < texts.length; k++) {
            check.due("'" + texts[k] + "'", Check.add(new CutConformer(), 1, 2, 0, texts[k]), want[k]);
        }
        check.due("the 40th byte", Check.add(new CutConformer(), 1, 2, 0, "b".repeat(39) + " "), -49);
        check.due("the 39th byte behind a blank", Check.add(new CutConformer(), 1, 2, 0, "b".repeat(37) + "  b"), -48);
        check.due("none", Check.add(new CutConformer(), 1, 2, 0, "a b c d e f g h i j k l m n o p q r s tu"), 0);
    }

    private static void addEmptyBuffer() {
        check.sentence("Promise 11", "or -10 if the text buffer is empty");
        CutConformer x = new CutConformer();
        check.due("of a new object", x.add(1, 2, 0), -10);
        x.type('a');
        x.clear();
        check.due("that was emptied", x.add(1, 2, 0), -10);
        check.due("no subtitle", x.told(8), 0);
        check.due("no change", x.told(11), 0);
    }

    private static void addFullGoesAhead() {
        check.sentence("Promise 11", "(FULL goes ahead of these)");
        CutConformer x = full();
        for (String text : new String[] {"", " ", "a ", "a  b"}) {
            check.due("'" + text + "'", Check.add(x, 1, 2, 0, text), FULL);
            check.due("'" + text + "' and wrong", x.add(2, 1, 0), BAD);
        }
        x.drop(0);
        check.due("not full any more", x.add(1, 2, 0), -12);
    }

    private static void dropRemoves() {
        check.sentence("Promise 12", "Removes a subtitle.");
        CutConformer x = Make.timed(0, 10, 11, 10, 12, 10, 13, 20, 21);
        x.drop(1);
        check.times("one of three with the same first frame", x, "10-11 10-13 20-21");
        x.drop(2);
        check.times("the last one", x, "10-11 10-13");
        x.drop(0);
        check.times("the first one", x, "10-13");
        x.drop(0);
        check.times("the only one", x, "");
        CutConformer y = full();
        y.drop(0);
        check.due("the first of 16", y.subtitle(14, 0), 150);
        check.due("no 16th", y.subtitle(15, 0), BAD);
    }

    private static void dropReturns() {
        check.sentence("Promise 12", "Returns how many are left");
        CutConformer x = full();
        for (int left = 15; left >= 0; left--) check.due("drop", x.drop(left / 2), left);
    }

    private static void dropBad() {
        check.sentence("Promise 12", "BAD if there is no such subtitle.");
        CutConformer x = new CutConformer();
        check.due("of none", x.drop(0), BAD);
        CutConformer y = full();
        for (int i : new int[] {-1, 16, LEAST, GREATEST}) check.due("" + i, y.drop(i), BAD);
        check.due("the 16th", y.drop(15), 15);
        check.due("it is away", y.drop(15), BAD);
    }

    private static void moveInTime() {
        check.sentence("Promise 13", "Moves a subtitle in time.");
        CutConformer x = Make.timed(0, 10, 20, 30, 40, 50, 60);
        x.move(1, 0, 9999);
        check.times("the widest", x, "0-9999 10-20 50-60");
        x.move(0, 9998, 9999);
        check.times("the last frame", x, "10-20 50-60 9998-9999");
        x.move(2, 0, 1);
        check.times("the first frame", x, "0-1 10-20 50-60");
        x.move(1, 5, 60);
        check.times("in its place", x, "0-1 5-60 50-60");
    }

    private static void moveNumber() {
        check.sentence("Promise 13", "Returns its number then");
        CutConformer x = Make.timed(0, 10, 20, 30, 40, 50, 60);
        check.due("to the front", x.move(2, 9, 60), 0);
        check.due("to the back", x.move(0, 31, 60), 2);
        check.due("behind one with its first frame", x.move(0, 30, 31), 1);
        check.due("ahead, behind one with its first frame", x.move(2, 30, 99), 2);
        check.due("in its place", x.move(2, 31, 32), 2);
        CutConformer y = full();
        check.due("the first of 16 to the back", y.move(0, 9998, 9999), 15);
        check.due("and again to the front", y.move(15, 0, 9999), 0);
        CutConformer z = Make.timed(0, 10, 20);
        check.due("the only one", z.move(0, 0, 1), 0);
    }

    private static void moveBad() {
        check.sentence("Promise 13", "BAD if there is no such subtitle, a frame is out of range, or first is not less than end.");
        CutConformer x = new CutConformer();
        check.due("of none", x.move(0, 1, 2), BAD);
        x = Make.timed(0, 10, 20, 30, 40);
        for (int i : new int[] {-1, 2, LEAST, GREATEST}) check.due("" + i, x.move(i, 1, 2), BAD);
        int[][] wrong = {{-1, 1}, {0, 0}, {0, 10000}, {9999, 9999}, {9999, 10000}, {5, 5}, {6, 5}, {LEAST, GREATEST}};
        for (int[] w : wrong) check.due(w[0] + " to " + w[1], x.move(1, w[0], w[1]), BAD);
        check.times("nothing is moved", x, "10-20 30-40");
        check.due("no change", x.told(11), 2);
    }

    private static void subtitleTimes() {
        check.sentence("Promise 14", "0 for its first frame, 1 for its end");
        CutConformer x = Make.timed(0, 0, 9999, 9998, 9999, 0, 1);
        check.due("the least first frame", x.subtitle(0, 0), 0);
        check.due("the greatest end", x.subtitle(0, 1), 9999);
        check.due("the least end", x.subtitle(1, 1), 1);
        check.due("the greatest first frame", x.subtitle(2, 0), 9998);
    }

    private static void subtitleParts() {
        check.sentence("SUBTITLES", "It has one part or two");
        check.due("one", withText("a").subtitle(0, 2), 1);
        check.due("two", pair("a", "b").subtitle(0, 2), 2);
    }

    private static void subtitleCharacters() {
        check.sentence("SUBTITLES", "The characters of a subtitle are the bytes of its text, blanks included; with two parts, "
            + "those of both texts, plus 4.");
        check.due("1 byte", withText("a").subtitle(0, 3), 1);
        check.due("a blank", withText("a b").subtitle(0, 3), 3);
        check.due("40 bytes", withText(FORTY).subtitle(0, 3), 40);
        check.due("1 byte and 1 byte", pair("a", "b").subtitle(0, 3), 6);
        check.due("3 bytes and 40", pair("a b", FORTY).subtitle(0, 3), 47);
        check.due("40 bytes and 40", pair(FORTY, FORTY).subtitle(0, 3), 84);
    }

    private static void subtitleReadingLength() {
        check.sentence("SETTINGS", "The reading length of a subtitle is the greater one of setting 1 and setting 0 times its characters.");
        CutConformer x = withText("13 characters");
        x.set(0, 2);
        x.set(1, 25);
        check.due("characters are more", x.subtitle(0, 4), 26);
        x.set(1, 26);
        check.due("both the same", x.subtitle(0, 4), 26);
        x.set(1, 27);
        check.due("setting 1 is more", x.subtitle(0, 4), 27);
        CutConformer greatest = pair(FORTY, FORTY);
        greatest.set(0, 20);
        check.due("the greatest", greatest.subtitle(0, 4), 1680);
        CutConformer least = withText("a");
        least.set(0, 1);
        least.set(1, 1);
        check.due("the least", least.subtitle(0, 4), 1);
        least.set(1, 200);
        check.due("the greatest setting 1", least.subtitle(0, 4), 200);
    }

    private static void subtitleFaults() {
        check.sentence("Promise 14", "5 for its faults");
        CutConformer none = withText("a");
        none.piece(0, 100);
        none.move(0, 10, 34);
        check.due("none", none.subtitle(0, 5), 0);
        CutConformer all = new CutConformer();
        Check.add(all, 100, 103, 0, "seventeenletterss");
        Check.add(all, 100, 200, 1, "b");
        Check.add(all, 104, 200, 2, "c");
        all.shot(99, true);
        check.due("all", all.subtitle(0, 5), 1 + 2 + 4 + 8 + 16 + 32);
    }

    private static void subtitleNext() {
        check.sentence("Promise 14", "6 for the number of the next subtitle with a greater first frame (the first one with it; "
            + "NONE if there is none)");
        CutConformer x = Make.timed(0, 10, 50, 10, 50, 11, 50, 11, 50, 9998, 9999);
        int[] want = {2, 2, 4, 4, NONE};
        for (int i = 0; i < 5; i++) check.due("" + i, x.subtitle(i, 6), want[i]);
        CutConformer same = Make.timed(0, 7, 8, 7, 9, 7, 10);
        for (int i = 0; i < 3; i++) check.due(i + " of three with the same first frame", same.subtitle(i, 6), NONE);
        CutConformer y = full();
        check.due("the 15th of 16", y.subtitle(14, 6), 15);
        check.due("the 16th", y.subtitle(15, 6), NONE);
        check.due("the only one", withText("a").subtitle(0, 6), NONE);
    }

    private static void subtitleBad() {
        check.sentence("Promise 14", "BAD if there is no such subtitle or what is not 0 to 6.");
        CutConformer x = new CutConformer();
        for (int what = 0; what <= 6; what++) check.due("of none, " + what, x.subtitle(0, what), BAD);
        x = withText("a");
        for (int i : new int[] {-1, 1, 16, LEAST, GREATEST}) check.due("" + i, x.subtitle(i, 6), BAD);
        for (int what : new int[] {-1, 7, LEAST, GREATEST}) check.due("what " + what, x.subtitle(0, what), BAD);
    }

    private static void partSpeaker() {
        check.sentence("Promise 15", "0 for its speaker");
        CutConformer x = pair("a", "b");
        check.due("the least, first part", x.part(0, 0, 0), 0);
        check.due("the greatest, second part", x.part(0, 1, 0), 3);
    }

    private static void partBytes() {
        check.sentence("Promise 15", "1 for how many bytes its text has");
        CutConformer x = pair("a", FORTY);
        check.due("the least", x.part(0, 0, 1), 1);
        check.due("the greatest", x.part(0, 1, 1), 40);
    }

    private static void partFirstLine() {
        check.sentence("Promise 15", "2 for how many bytes its first line has (those of the text, if it stands in one line)");
        check.due("one byte", withText("a").part(0, 0, 2), 1);
        check.due("16 bytes in 16", withText("16 bytes in one.").part(0, 0, 2), 16);
        check.due("17 bytes in 16", withText("17 bytes, in two.").part(0, 0, 2), 9);
        check.due("17 bytes without a blank", withText("seventeenletterss").part(0, 0, 2), 17);
        check.due("in the second part", pair("a", "17 bytes, in two.").part(0, 1, 2), 9);
    }

    private static void partRank() {
        check.sentence("Promise 15", "3 for the rank of the blank at which it is broken (NONE if it stands in one line)");
        check.due("one byte", withText("a").part(0, 0, 3), NONE);
        check.due("16 bytes in 16", withText("16 bytes in one.").part(0, 0, 3), NONE);
        check.due("17 bytes in 16", withText("17 bytes, in two.").part(0, 0, 3), 1);
        check.due("17 bytes without a blank", withText("seventeenletterss").part(0, 0, 3), NONE);
        check.due("rank 0", withText("17 bytes. in two.").part(0, 0, 3), 0);
        check.due("in the second part", pair("a", "17 bytes, in two.").part(0, 1, 3), 1);
    }

    private static void partByte() {
        check.sentence("Promise 15", "10 and more for the byte of its text with the index what - 10 (NONE if it has not so many)");
        CutConformer x = pair("a", FORTY);
        check.due("the only byte", x.part(0, 0, 10), 'a');
        check.due("none behind it", x.part(0, 0, 11), NONE);
        check.due("the first of 40", x.part(0, 1, 10), 'f');
        check.due("a blank", x.part(0, 1, 15), 32);
        check.due("the last of 40", x.part(0, 1, 49), '.');
        check.due("none behind it, too", x.part(0, 1, 50), NONE);
        check.due("the greatest number", x.part(0, 1, GREATEST), NONE);
    }

    private static void partNone() {
        check.sentence("Promise 15", "NONE for all if it has only one part and part is 1");
        CutConformer x = withText("17 bytes, in two.");
        for (int what : new int[] {0, 1, 2, 3, 10, 26, 49, 50, GREATEST}) check.due("" + what, x.part(0, 1, what), NONE);
        check.due("but the first part", x.part(0, 0, 0), 0);
    }

    private static void partBad() {
        check.sentence("Promise 15", "BAD if there is no such subtitle, part is not 0 or 1, or what is none of these.");
        CutConformer x = new CutConformer();
        check.due("of none", x.part(0, 0, 0), BAD);
        check.due("of none, a byte", x.part(0, 0, 10), BAD);
        x = pair("a", "b");
        for (int i : new int[] {-1, 1, LEAST, GREATEST}) check.due("" + i, x.part(i, 0, 0), BAD);
        for (int part : new int[] {-1, 2, LEAST, GREATEST}) check.due("part " + part, x.part(0, part, 0), BAD);
        for (int what : new int[] {-1, 4, 5, 6, 7, 8, 9, LEAST}) check.due("what " + what, x.part(0, 1, what), BAD);
        x = withText("a");
        check.due("what 4 of a second part that there is not", x.part(0, 1, 4), BAD);
        check.due("part 2 of one", x.part(0, 2, 10), BAD);
    }
}

/** Promises 9 to 15: the text buffer, and subtitles with their properties. */
public final class SubtitlesTest {
    private static final int BAD = -1, FULL = -3, NONE = -9;
    private static final Check check = new Check();

    public static void main(String[] args) {
        type();
        clear();
        add();
        addWrongTexts();
        mostSubtitles();
        drop();
        move();
        subtitle();
        faultsOfOne();
        part();
        lines();
        ranks();
        check.end("SubtitlesTest");
    }

    private static void type() {
        CutConformer x = new CutConformer();
        check.due("31", x.type(31), BAD);
        check.due("127", x.type(127), BAD);
        check.due("-200", x.type(-200), BAD);
        check.due("32", x.type(32), 1);
        check.due("126", x.type(126), 2);
        for (int n = 3; n <= 40; n++) check.due("byte " + n, x.type('a'), n);
        check.due("a 41st", x.type('a'), FULL);
        check.due("a wrong 41st", x.type(300), BAD);
        check.due("told", x.told(10), 40);
        check.due("no change", x.told(11), 0);
    }

    private static void clear() {
        CutConformer x = new CutConformer();
        check.due("empty", x.clear(), 0);
        Check.write(x, "abc");
        check.due("had", x.clear(), 3);
        check.due("has", x.told(10), 0);
        check.due("no change", x.told(11), 0);
        check.due("type again", x.type('z'), 1);
        x.add(1, 2, 0);
        check.due("the text", x.part(0, 0, 10), 'z');
        check.due("one byte", x.part(0, 0, 11), NONE);
    }

    private static void add() {
        CutConformer x = new CutConformer();
        check.due("0-9999", Check.add(x, 0, 9999, 0, "a"), 0);
        check.due("the buffer stays", x.told(10), 1);
        check.due("the same first frame", x.add(0, 1, 3), 1);
        check.due("the last frame", x.add(9998, 9999, 3), 2);
        check.due("between", Check.add(x, 50, 60, 1, "b"), 2);
        check.due("behind that", Check.add(x, 50, 55, 1, "c"), 3);
        check.due("ahead of both", Check.add(x, 49, 90, 1, "d"), 2);
        check.times("in order", x, "0-9999 0-1 49-90 50-60 50-55 9998-9999");
        check.due("states", x.told(11), 6);
        int[][] wrong = {{-1, 5, 0}, {5, 10000, 0}, {5, 5, 0}, {6, 5, 0}, {5, 6, -1}, {5, 6, 4}, {9999, 9999, 0},
            {Integer.MIN_VALUE, Integer.MAX_VALUE, 0}};
        for (int[] w : wrong) check.due("add " + w[0] + " " + w[1] + " " + w[2], x.add(w[0], w[1], w[2]), BAD);
        check.due("states then", x.told(11), 6);
        Check.write(x, "changed");
        check.due("a text stays as it was added", x.part(2, 0, 1), 1);
        check.due("its byte", x.part(2, 0, 10), 'd');
    }

    private static void addWrongTexts() {
        String[] texts = {"", " ", " a", "a ", "a  b", "a b  c", "a b ", "  ", "ab c d  ", "a  b "};
        int[] want = {-10, -10, -10, -11, -12, -14, -13, -10, -17, -12};
        CutConformer x = new CutConformer();
        for (int k = 0; k < texts.length; k++) {
            check.due("add '" + texts[k] + "'", Check.add(x, 1, 2, 0, texts[k]), want[k]);
            check.due("add '" + texts[k] + "', wrong", x.add(2, 2, 0), BAD);
        }
        String last = "a".repeat(39) + " ";
        check.due("a blank at the end of 40", Check.add(x, 1, 2, 0, last), -49);
        check.due("nothing is added", x.told(8), 0);
        check.due("nothing is recorded", x.told(11), 0);
        for (int i = 0; i < 16; i++) Check.add(x, i, i + 1, 0, "a");
        check.due("FULL with a wrong text", Check.add(x, 1, 2, 0, "a "), FULL);
        x.clear();
        check.due("FULL with no text", x.add(1, 2, 0), FULL);
    }

    private static void mostSubtitles() {
        CutConformer x = new CutConformer();
        x.type('a');
        for (int i = 0; i < 16; i++) check.due("subtitle " + i, x.add(100 - i, 200, 0), 0);
        check.due("a 17th", x.add(1, 2, 0), FULL);
        check.due("a wrong 17th", x.add(2, 1, 0), BAD);
        check.due("how many", x.told(8), 16);
        check.due("the last", x.subtitle(15, 0), 100);
        check.due("no 17th", x.subtitle(16, 0), BAD);
    }

    private static void drop() {
        CutConformer x = new CutConformer();
        for (int i = 0; i < 4; i++) Check.add(x, 10 * i, 10 * i + 5, i, "" + (char) ('a' + i));
        check.due("drop 4", x.drop(4), BAD);
        check.due("drop -1", x.drop(-1), BAD);
        check.due("states", x.told(11), 4);
        check.due("drop 1", x.drop(1), 3);
        check.times("after it", x, "0-5 20-25 30-35");
        check.due("text of the one behind", x.part(1, 0, 10), 'c');
        check.due("drop the last", x.drop(2), 2);
        check.due("drop the first", x.drop(0), 1);
        check.due("drop the only one", x.drop(0), 0);
        check.due("drop none", x.drop(0), BAD);
        x.undo();
        check.times("undone", x, "20-25");
        Check.add(x, 1, 2, 0, "new");
        x.undo();
        x.undo();
        check.times("undone twice", x, "0-5 20-25");
        check.due("its text", x.part(0, 0, 10), 'a');
    }

    private static void move() {
        CutConformer x = new CutConformer();
        for (int i = 0; i < 4; i++) Check.add(x, 10 * (i / 2), 30 + i, i, "" + (char) ('a' + i));
        check.times("before", x, "0-30 0-31 10-32 10-33");
        check.due("later", x.move(0, 10, 40), 3);
        check.times("behind the others", x, "0-31 10-32 10-33 10-40");
        check.due("its speaker", x.part(3, 0, 0), 0);
        check.due("earlier", x.move(2, 0, 33), 1);
        check.times("behind the one there", x, "0-31 0-33 10-32 10-40");
        check.due("to its own first frame", x.move(0, 0, 5), 1);
        check.times("behind the other", x, "0-33 0-5 10-32 10-40");
        check.due("in its place", x.move(2, 5, 9999), 2);
        int[][] wrong = {{4, 1, 2}, {-1, 1, 2}, {0, -1, 2}, {0, 5, 5}, {0, 6, 5}, {0, 1, 10000}, {0, 9999, 10000}};
        for (int[] w : wrong) check.due("move " + w[0] + " " + w[1] + " " + w[2], x.move(w[0], w[1], w[2]), BAD);
        check.due("states", x.told(11), 8);
        check.due("the widest", x.move(3, 0, 9999), 2);
    }

    private static void subtitle() {
        CutConformer x = new CutConformer();
        Check.add(x, 10, 30, 0, "abc");
        Check.add(x, 12, 40, 1, "defgh");
        Check.add(x, 90, 95, 2, "a long text of 32 bytes, you see");
        Check.add(x, 90, 99, 2, "x");
        x.conform(2);
        int[][] want = {{10, 40, 2, 12, 24, 49, 1}, {90, 95, 1, 32, 64, 37, NONE}, {90, 99, 1, 1, 24, 37, NONE}};
        for (int i = 0; i < 3; i++) {
            for (int what = 0; what <= 6; what++) {
                if (what != 5) check.due("subtitle " + i + " " + what, x.subtitle(i, what), want[i][what]);
            }
        }
        x.set(0, 20);
        check.due("two texts and 4", x.subtitle(0, 4), 240);
        x.set(1, 200);
        x.set(0, 6);
        check.due("the least length", x.subtitle(0, 4), 200);
        check.due("what 7", x.subtitle(0, 7), BAD);
        check.due("what -1", x.subtitle(0, -1), BAD);
        check.due("no such one", x.subtitle(3, 0), BAD);
        check.due("number -1", x.subtitle(-1, 0), BAD);
    }

    private static void faultsOfOne() {
        CutConformer x = new CutConformer();
        x.piece(0, 1000);
        Check.add(x, 100, 124, 0, "a");
        check.due("none", x.subtitle(0, 5), 0);
        x.move(0, 100, 123);
        check.due("too short", x.subtitle(0, 5), 1);
        x.move(0, 100, 124);
        Check.add(x, 126, 200, 0, "b");
        check.due("the gap is kept", x.subtitle(0, 5), 0);
        x.set(2, 3);
        check.due("the gap is not kept", x.subtitle(0, 5), 2);
        check.due("the last one has no next one", x.subtitle(1, 5), 0);
        x.move(1, 100, 200);
        check.due("the same first frame, 0", x.subtitle(0, 5), 4);
        check.due("the same first frame, 1", x.subtitle(1, 5), 4);
        x.drop(1);
        x.shot(94, true);
        check.due("a shot change near the first frame", x.subtitle(0, 5), 8);
        x.shot(100, true);
        check.due("a shot change at it", x.subtitle(0, 5), 0);
        x.shot(131, true);
        check.due("out of reach", x.subtitle(0, 5), 0);
        x.set(3, 7);
        check.due("in reach of the end", x.subtitle(0, 5), 8);
        x.set(3, 0);
        check.due("no reach", x.subtitle(0, 5), 0);
        x.drop(0);
        Check.add(x, 500, 600, 0, "a text of 17 byte");
        check.due("two lines that fit", x.subtitle(0, 5), 0);
        x.drop(0);
        Check.add(x, 500, 600, 0, "sixteenlettersss seventeenletterss");
        check.due("a line that does not fit", x.subtitle(0, 5), 16);
        x.set(4, 17);
        check.due("it fits", x.subtitle(0, 5), 0);
        x.move(0, 900, 1000);
        check.due("to the end of the cut", x.subtitle(0, 5), 0);
        x.move(0, 900, 1001);
        check.due("behind the cut", x.subtitle(0, 5), 32);
    }

    private static void part() {
        CutConformer x = new CutConformer();
        Check.add(x, 10, 30, 3, "well, it is late and cold.");
        Check.add(x, 12, 40, 1, "yes");
        check.due("no second part", x.part(0, 1, 0), NONE);
        check.due("none of its bytes", x.part(0, 1, 10), NONE);
        check.due("wrong for one part, too", x.part(0, 1, 4), BAD);
        x.conform(2);
        int[][] want = {{0, 0, 3}, {0, 1, 26}, {0, 2, 16}, {0, 3, 2}, {0, 10, 'w'}, {0, 35, '.'}, {0, 36, NONE},
            {0, Integer.MAX_VALUE, NONE}, {1, 0, 1}, {1, 1, 3}, {1, 2, 3}, {1, 3, NONE}, {1, 12, 's'}, {1, 13, NONE},
            {0, 4, BAD}, {0, 9, BAD}, {0, -1, BAD}, {0, Integer.MIN_VALUE, BAD}, {2, 0, BAD}, {-1, 0, BAD}};
        for (int[] w : want) check.due("part " + w[0] + " " + w[1], x.part(0, w[0], w[1]), w[2]);
        check.due("no such subtitle", x.part(1, 0, 0), BAD);
        check.due("subtitle -1", x.part(-1, 0, 0), BAD);
    }

    private static void lines() {
        check.line(8, "ab cd ef", 8, NONE);
        check.line(8, "ab cd efg", 5, 3);
        check.line(8, "abcdefghij", 10, NONE);
        check.line(10, "aaaa bbb ccc", 4, 3);
        check.line(10, "aaa bb ccccc", 6, 3);
        check.line(9, "aaa b ccc dd", 5, 3);
        check.line(10, "aaaa b cccc", 4, 3);
        check.line(8, "a bbbbbbbbbbbbbb cc", 16, 3);
        check.line(8, "aaaaaaaaa bbbbbbbbb", 9, 3);
        check.line(8, "aaaaaaaaa b ccccccccc", 9, 3);
        check.line(8, "a, bb ccccccccccccc", 5, 3);
        check.line(20, "aa. bbbbbbbb ccccccccc", 3, 0);
        check.line(17, "aa. bbbbbbbb ccccccccc", 12, 3);
        check.line(18, "aa. bbbbbbbb ccccccccc", 3, 0);
        check.line(16, "aaaa. b, cccccccccccc", 5, 0);
        check.line(16, "aaaaaaa, bbbbb. ccccc", 8, 1);
        check.line(40, "a b c d e f g h i j k l m n o p q r s t", 39, NONE);
        check.line(38, "a b c d e f g h i j k l m n o p q r s t", 19, 3);
    }

    private static void ranks() {
        String[] before = {"aaaa.", "aaaa!", "aaaa?", "aaaa,", "aaaa:", "aaaa;", "aaaa-", "aaaa"};
        int[] rank = {0, 0, 0, 1, 1, 3, 3, 3};
        for (int k = 0; k < before.length; k++) check.line(8, before[k] + " bbbbb", before[k].length(), rank[k]);
        String[] behind = {"and", "or", "but", "And", "an", "ands", "but,", "nor", "o", "orr", "bat", "AND"};
        int[] joins = {2, 2, 2, 3, 3, 3, 3, 3, 3, 3, 3, 3};
        for (int k = 0; k < behind.length; k++) check.line(8, "aaaaaaa " + behind[k], 7, joins[k]);
        check.line(9, "aaaaaa and b", 6, 2);
        check.line(9, "aaaaaa. and b", 7, 0);
    }
}

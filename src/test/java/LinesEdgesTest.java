/** LINES and FAULTS of the description: a method for each sentence that names a boundary case. */
public final class LinesEdgesTest {
    private static final int NONE = -9;
    private static final Check check = new Check();

    public static void main(String[] args) {
        oneLine();
        blankFallsAway();
        rankNought();
        rankOne();
        rankTwo();
        rankThree();
        linesThatFit();
        smallestCost();
        firstOfSameCost();
        noneFits();
        firstOfSameLonger();
        withoutBlank();
        tooShort();
        tooClose();
        sameFirst();
        offShotFirst();
        offShotEnd();
        offShotThoughNotTaken();
        tooWide();
        behindCut();
        faultsAsSum();
        check.end("LinesEdgesTest");
    }

    private static void oneLine() {
        check.sentence("LINES", "A text whose bytes are at most setting 4 stands in one line.");
        check.line(8, "a bb ccc", 8, NONE);
        check.line(8, "a bb cccc", 4, 3);
        check.line(16, "a. bb ccc dddd e", 16, NONE);
        check.line(16, "a. bb ccc dddd ee", 2, 0);
        check.line(40, "a b c d e f g h i j k l m n o p q r s tu", 40, NONE);
        check.line(39, "a b c d e f g h i j k l m n o p q r s tu", 19, 3);
        check.line(8, "a", 1, NONE);
        check.line(8, "a. b, c", 7, NONE);
        check.line(40, "a. b and c", 10, NONE);
    }

    private static void blankFallsAway() {
        check.sentence("LINES", "Otherwise it is broken at a blank, which falls away; the first line is what is before it, "
            + "the second line what is behind it.");
        check.line(8, "aaaaaaaa bbbbbbbb", 8, 3);
        check.line(16, "aaaaaaaaaaaaaaaa bbbbbbbbbbbbbbbb", 16, 3);
        CutConformer x = new CutConformer();
        x.set(4, 8);
        Check.add(x, 0, 9, 0, "aaaaaaaa bbbbbbbb");
        check.due("both lines are narrow enough", x.faults(16), 0);
        check.line(8, "a bbbbbbbb", 1, 3);
        check.line(8, "aaaaaaaa b", 8, 3);
    }

    private static void rankNought() {
        check.sentence("LINES", "The rank of a blank is 0 if the byte before it is . or ! or ?");
        check.line(8, "aaa. bbbb", 4, 0);
        check.line(8, "aaa! bbbb", 4, 0);
        check.line(8, "aaa? bbbb", 4, 0);
        check.line(8, "! bbbbbbb", 1, 0);
        check.line(8, "aaa. and", 8, NONE);
        check.line(8, "aaaaa. and", 6, 0);
        check.line(8, "aaa, . and bb", 6, 0);
    }

    private static void rankOne() {
        check.sentence("LINES", "1 if it is , or :");
        check.line(8, "aaa, bbbb", 4, 1);
        check.line(8, "aaa: bbbb", 4, 1);
        check.line(8, ", bbbbbbb", 1, 1);
        check.line(8, "aaaaa, or", 6, 1);
        check.line(8, "aaaaa: but", 6, 1);
        check.line(8, "aaaa., bb", 6, 1);
        check.line(8, "aaaa; bbb", 5, 3);
        check.line(8, "aaaa- bbb", 5, 3);
    }

    private static void rankTwo() {
        check.sentence("LINES", "2 if the word behind it is and, or or but (in small letters)");
        check.line(8, "aaaaa and", 5, 2);
        check.line(8, "aaaaaa or", 6, 2);
        check.line(8, "aaaaa but", 5, 2);
        check.line(8, "aaaaa and b", 5, 2);
        check.line(8, "aaaaaa or b", 6, 2);
        check.line(8, "aaaaa but b", 5, 2);
    }

    private static void rankThree() {
        check.sentence("LINES", "and 3 otherwise");
        for (String word : new String[] {"And", "AND", "anD", "Or", "OR", "But", "buT", "an", "o", "bu", "andy", "ore",
            "butt", "and,", "or.", "but!", "band", "nor", "nd", "r", "ut", "a", "n"}) {
            check.line(8, "aaaaaaaa " + word, 8, 3);
        }
        check.line(8, "aaaa.b ccc", 6, 3);
        check.line(8, "and bbbbb", 3, 3);
        check.line(8, "or bbbbbb", 2, 3);
        check.line(8, "aaaa bbb,", 4, 3);
    }

    private static void linesThatFit() {
        check.sentence("LINES", "Of the blanks with which both lines have at most setting 4 bytes, that is taken");
        check.line(18, "aa. bbbbbbbb ccccccccc", 3, 0);
        check.line(17, "aa. bbbbbbbb ccccccccc", 12, 3);
        check.line(14, "ccccccc bbbbb. aa", 14, 0);
        check.line(13, "ccccccc bbbbb. aa", 7, 3);
        check.line(8, "a. bb cccccccc", 5, 3);
    }

    private static void smallestCost() {
        check.sentence("LINES", "for which the difference of the numbers of bytes of both lines, plus 6 times its rank, is smallest");
        // the differences of one text are all even or all odd: 8 are more than a rank, 4 are less
        check.line(16, "aaaaaaa, bbbbbb. cccc", 8, 1);
        check.line(16, "aaaaaaaa, bbbb. ccccc", 9, 1);
        check.line(16, "aaaaaaa, bbbb. cccccc", 14, 0);
        check.line(16, "aaaaa. bbbb, cccccccc", 6, 0);
        check.line(16, "aaa. bbbbbb, cccccccc", 12, 1);
        check.line(16, "aaaaaaaaa bbbbb and c", 9, 3);
        check.line(16, "aaaaaaaaa bb and cccc", 12, 2);
        check.line(16, "aaaaaaaa or b, cccccc", 14, 1);
        check.line(16, "aaaaaaaa or bbb, cccc", 8, 2);
    }

    private static void firstOfSameCost() {
        check.sentence("LINES", "of several the first one");
        check.line(8, "aaaa bb cccc", 4, 3);
        check.line(16, "aaaa, b cc, ddddd", 5, 1);
        check.line(9, "aaa. bbb. cccc", 4, 0);
        check.line(16, "aaaaaaa, bbbbb. ccccc", 8, 1);
        check.line(16, "aaaa. bbbbb, cccccccc", 5, 0);
        check.line(16, "aaaaaaaa or bb, ccccc", 8, 2);
        check.line(16, "a b c d e f g h i j k", 9, 3);
    }

    private static void noneFits() {
        check.sentence("LINES", "if there is no such blank, that with which the longer line is shortest");
        check.line(8, "aaa. bbbbbbbb ccccccccc", 13, 3);
        check.line(8, "aaaaaaaaa bbbbbbbbb", 9, 3);
        check.line(8, "a, bb ccccccccccccc", 5, 3);
        check.line(8, "ccccccccccccc, bb a", 14, 1);
        check.line(8, "a bbbbbbbbb", 1, 3);
        check.line(8, "aaaaaaaaa b", 9, 3);
    }

    private static void firstOfSameLonger() {
        check.sentence("LINES", "that with which the longer line is shortest, of several the first one");
        check.line(8, "aaaaaaaaa b ccccccccc", 9, 3);
        check.line(8, "aaaaaaaaa b. ccccccccc.", 12, 0);
        check.line(8, "aaaaaaaaa, b. cccccccccc", 10, 1);
        check.line(8, "aaaaaaaaaa bb. cccccccccc", 10, 3);
        check.line(8, "aaaaaaaaaa b. cccccccccc", 10, 3);
    }

    private static void withoutBlank() {
        check.sentence("LINES", "A text without a blank stays in one line.");
        check.line(8, "aaaaaaaa", 8, NONE);
        check.line(8, "aaaaaaaaa", 9, NONE);
        check.line(8, "aaa.bbb,ccc", 11, NONE);
        check.line(8, "a".repeat(40), 40, NONE);
    }

    private static void faults(String when, CutConformer x, int... want) {
        for (int i = 0; i < want.length; i++) check.due(when + ", faults of " + i, x.subtitle(i, 5), want[i]);
    }

    private static void tooShort() {
        check.sentence("FAULTS", "1 if its length is less than its reading length");
        CutConformer x = Make.timed(1000, 100, 124);
        faults("as long as the least length", x, 0);
        x.move(0, 100, 123);
        faults("one frame less", x, 1);
        x.set(1, 1);
        x.move(0, 100, 102);
        faults("as long as its characters need", x, 0);
        x.move(0, 100, 101);
        faults("one frame less than they need", x, 1);
        x.set(0, 1);
        faults("the least reading length", x, 0);
    }

    private static void tooClose() {
        check.sentence("FAULTS", "2 if its end is greater than the first frame of the next subtitle (as in 3.) minus the gap");
        CutConformer x = Make.timed(1000, 100, 128, 130, 160);
        faults("the gap is just kept", x, 0, 0);
        x.set(2, 3);
        faults("one frame is missing", x, 2, 0);
        x.set(2, 0);
        x.move(0, 100, 130);
        faults("no gap, and they touch", x, 0, 0);
        x.move(0, 100, 131);
        faults("no gap, and a common frame", x, 2, 0);
        CutConformer same = Make.timed(1000, 100, 200, 100, 201, 202, 300);
        faults("the next one is the one with a greater first frame", same, 4, 4 + 2, 0);
        CutConformer below = Make.timed(1000, 0, 24, 10, 60);
        below.set(2, 50);
        faults("the first frame minus the gap is below 0", below, 2, 0);
        faults("without a next one", Make.timed(1000, 100, 1000), 0);
    }

    private static void sameFirst() {
        check.sentence("FAULTS", "4 if another subtitle has the same first frame");
        faults("the two last ones", Make.timed(1000, 100, 125, 200, 250, 200, 250), 0, 4, 4);
        faults("the two first ones", Make.timed(1000, 100, 125, 100, 125, 200, 250), 4, 4, 0);
        faults("three", Make.timed(1000, 100, 125, 100, 125, 100, 125), 4, 4, 4);
        faults("one frame apart", Make.timed(1000, 100, 125, 101, 125), 2, 0);
        faults("the same end", Make.timed(1000, 100, 160, 130, 160), 2, 0);
        faults("the only one", Make.timed(1000, 0, 24), 0);
    }

    private static void offShotFirst() {
        check.sentence("FAULTS", "8 if its first frame is not a shot change, but some shot change is at most the reach away from it");
        CutConformer x = Make.timed(1000, 100, 200);
        x.shot(93, true);
        x.shot(107, true);
        faults("7 away on both sides, the reach is 6", x, 0);
        x.set(3, 7);
        faults("7 away, the reach is 7", x, 8);
        x.shot(93, false);
        faults("behind alone", x, 8);
        x.shot(93, true);
        x.shot(107, false);
        faults("before alone", x, 8);
        x.shot(100, true);
        faults("it is one itself", x, 0);
        x.shot(100, false);
        x.shot(99, true);
        x.set(3, 0);
        faults("reach 0", x, 0);
        x.set(3, 1);
        faults("reach 1", x, 8);
        CutConformer edge = Make.timed(1000, 0, 100);
        edge.shot(1, true);
        faults("frame 0", edge, 8);
        edge.shot(1, false);
        edge.shot(50, true);
        edge.set(3, 50);
        faults("frame 0, the greatest reach", edge, 8);
        edge.set(3, 49);
        faults("frame 0, one less", edge, 0);
    }

    private static void offShotEnd() {
        check.sentence("FAULTS", "or if this is so of its end");
        CutConformer x = Make.timed(1000, 100, 200);
        x.shot(194, true);
        faults("6 before", x, 8);
        x.set(3, 5);
        faults("6 before, the reach is 5", x, 0);
        x.shot(205, true);
        faults("5 behind", x, 8);
        x.shot(200, true);
        faults("it is one itself", x, 0);
        x.shot(99, true);
        faults("but the first frame is near one", x, 8);
        x.shot(100, true);
        faults("both are", x, 0);
        CutConformer last = Make.timed(1000, 9900, 9999);
        last.shot(9998, true);
        faults("the greatest end", last, 8 + 32);
    }

    private static void offShotThoughNotTaken() {
        check.sentence("FAULTS", "(whether step 4 would take that shot change or not)");
        CutConformer x = Make.timed(1000, 100, 130);
        x.set(3, 30);
        x.shot(130, true);
        faults("the end is the shot change near the first frame", x, 8);
        check.due("snapped", x.conform(8), 1);
        check.times("not taken", x, "100-130");
        x.shot(130, false);
        x.shot(100, true);
        faults("the first frame is the shot change near the end", x, 8);
        x.conform(8);
        check.times("not taken, too", x, "100-130");
    }

    private static void tooWide() {
        check.sentence("FAULTS", "16 if some line of its texts has more than setting 4 bytes");
        String[] texts = {"sixteen letters.", "sixteenletterrss", "seventeenletterss", "sixteenletterrss sixteenletterrss",
            "sixteenletterrss seventeenletterss", "seventeenletterss sixteenletterrss", "seventeenletterss a"};
        int[] want = {0, 0, 16, 0, 16, 16, 16};
        for (int k = 0; k < texts.length; k++) {
            CutConformer x = Make.timed(1000);
            Check.add(x, 100, 300, 0, texts[k]);
            faults(texts[k], x, want[k]);
            Check.add(x, 100, 300, 1, "a");
            x.conform(2);
            faults(texts[k] + " in the first part", x, want[k]);
            CutConformer y = Make.timed(1000, 100, 300);
            Check.add(y, 100, 300, 1, texts[k]);
            y.conform(2);
            faults(texts[k] + " in the second part", y, want[k]);
            y.set(4, 17);
            faults(texts[k] + " in 17", y, 0);
        }
        CutConformer widest = Make.timed(1000);
        Check.add(widest, 100, 300, 0, "a".repeat(40));
        widest.set(4, 39);
        faults("40 bytes in 39", widest, 16);
        widest.set(4, 40);
        faults("40 bytes in 40", widest, 0);
    }

    private static void behindCut() {
        check.sentence("FAULTS", "32 if its end is greater than the length of the new cut");
        CutConformer x = Make.timed(1000, 900, 1000);
        faults("at the end of the cut", x, 0);
        x.move(0, 900, 1001);
        faults("one frame behind it", x, 32);
        x.piece(5, 1);
        faults("the cut is longer", x, 0);
        x.dropPiece(1);
        x.dropPiece(0);
        x.move(0, 0, 30);
        faults("no cut", x, 32);
        x.piece(0, 5000);
        x.piece(0, 4999);
        x.move(0, 0, 9999);
        faults("the longest cut", x, 0);
        x.dropPiece(1);
        x.piece(0, 4998);
        faults("one frame less", x, 32);
    }

    private static void faultsAsSum() {
        check.sentence("FAULTS", "FAULTS of a subtitle are told as a sum");
        CutConformer x = new CutConformer();
        Check.add(x, 100, 103, 0, "seventeenletterss");
        Check.add(x, 100, 200, 1, "b");
        Check.add(x, 104, 200, 2, "c");
        faults("no shot change", x, 1 + 2 + 4 + 16 + 32, 2 + 4 + 32, 32);
        x.shot(99, true);
        faults("a shot change", x, 63, 2 + 4 + 8 + 32, 8 + 32);
        x.piece(0, 300);
        faults("a cut", x, 31, 2 + 4 + 8, 8);
        x.set(4, 17);
        faults("a greater width", x, 15, 2 + 4 + 8, 8);
    }
}

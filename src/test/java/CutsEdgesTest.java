/** Promises 1 to 8: a method for each sentence that names a boundary case. */
public final class CutsEdgesTest {
    private static final int BAD = -1, STATE = -2, FULL = -3, NONE = -9;
    private static final int LEAST = Integer.MIN_VALUE, GREATEST = Integer.MAX_VALUE;
    private static final Check check = new Check();

    public static void main(String[] args) {
        newObjectIsEmpty();
        newObjectIsAsToldAbove();
        pieceGoesToTheEnd();
        pieceFirst();
        pieceLength();
        pieceInTheOldCut();
        pieceNumber();
        tenPieces();
        longestCut();
        dropPieceRemoves();
        dropPieceNumbers();
        dropPieceReturns();
        dropPieceBad();
        pieceAtFirst();
        pieceAtLength();
        pieceAtStart();
        pieceAtBad();
        shotSets();
        shotFrame();
        shotOn();
        shotFull();
        shotAtPlace();
        shotAtNone();
        shotAtBad();
        toNewFrame();
        toNewPassesOver();
        toNewNone();
        toNewBad();
        toOldFrame();
        toOldNone();
        toOldBad();
        check.end("CutsEdgesTest");
    }

    private static CutConformer shots(int... frames) {
        CutConformer x = new CutConformer();
        for (int frame : frames) x.shot(frame, true);
        return x;
    }

    private static void newObjectIsEmpty() {
        check.sentence("Promise 1", "Creates a conformer without pieces, shot changes and subtitles, with an empty text buffer");
        CutConformer x = new CutConformer();
        for (int what = 5; what <= 10; what++) check.due("told " + what, x.told(what), 0);
        check.due("a piece", x.pieceAt(0, 0), BAD);
        check.due("a piece to drop", x.dropPiece(0), BAD);
        check.due("a frame of the new cut", x.toOld(0), NONE);
        check.due("a frame of the old cut in the new one", x.toNew(0, 0), NONE);
        check.due("a shot change", x.shotAt(0), NONE);
        check.due("a subtitle", x.subtitle(0, 0), BAD);
        check.due("a part", x.part(0, 0, 0), BAD);
        check.due("a subtitle to drop", x.drop(0), BAD);
        check.due("a subtitle to move", x.move(0, 1, 2), BAD);
        check.due("stretches", x.stretches(0), BAD);
        check.due("shown", x.shown(0), 0);
        check.due("faults", x.faults(0), 0);
        check.due("the buffer", x.clear(), 0);
        check.due("a subtitle without a text", x.add(1, 2, 0), -10);
    }

    private static void newObjectIsAsToldAbove() {
        check.sentence("Promise 1", "everything else is as told above.");
        CutConformer x = new CutConformer();
        int[] settings = {2, 24, 2, 6, 16};
        for (int what = 0; what < 5; what++) check.due("setting " + what, x.told(what), settings[what]);
        check.due("remembered states", x.told(11), 0);
        check.due("undo", x.undo(), STATE);
        for (int what = 0; what < 5; what++) check.due("ifConform " + what, x.ifConform(31, what), 0);
        check.due("conform", x.conform(31), 0);
    }

    private static void pieceGoesToTheEnd() {
        check.sentence("Promise 2", "Adds a piece at the end of the edit list.");
        CutConformer x = Make.cut(500, 10, 100, 20);
        check.due("an earlier stretch", x.piece(7, 30), 2);
        check.due("it is the last", x.pieceAt(2, 0), 7);
        check.due("it stands behind the others", x.pieceAt(2, 2), 30);
        check.due("the first one stays", x.pieceAt(0, 0), 500);
    }

    private static void pieceFirst() {
        check.sentence("Promise 2", "`first`: its first frame in the old cut, 0 to 9999");
        CutConformer x = new CutConformer();
        check.due("0", x.piece(0, 1), 0);
        check.due("9999", x.piece(9999, 1), 1);
        for (int first : new int[] {-1, 10000, LEAST, GREATEST}) check.due("" + first, x.piece(first, 1), BAD);
        check.due("pieces", x.told(5), 2);
    }

    private static void pieceLength() {
        check.sentence("Promise 2", "`length`: 1 to 5000");
        CutConformer x = new CutConformer();
        check.due("1", x.piece(0, 1), 0);
        check.due("4999", x.piece(0, 4999), 1);
        x.dropPiece(1);
        check.due("5000", x.piece(0, 5000), 1);
        for (int length : new int[] {0, -1, 5001, LEAST, GREATEST}) check.due("" + length, x.piece(0, length), BAD);
        check.due("the new cut", x.told(6), 5001);
    }

    private static void pieceInTheOldCut() {
        check.sentence("Promise 2", "BAD if an argument is out of range, or some frame would not be in the old cut");
        CutConformer x = new CutConformer();
        check.due("the last frame of it", x.piece(9999, 1), 0);
        check.due("one behind it", x.piece(9999, 2), BAD);
        check.due("the last two", x.piece(9998, 2), 1);
        check.due("one more", x.piece(9998, 3), BAD);
        check.due("one behind a long one", x.piece(5001, 5000), BAD);
        check.due("the last 4999", x.piece(5001, 4999), 2);
        check.due("all wrong", x.piece(GREATEST, GREATEST), BAD);
        check.due("all wrong, below", x.piece(LEAST, LEAST), BAD);
    }

    private static void pieceNumber() {
        check.sentence("Promise 2", "Returns its number");
        CutConformer x = new CutConformer();
        for (int p = 0; p < 10; p++) check.due("piece " + p, x.piece(50, 5), p);
        x.dropPiece(3);
        check.due("after one less", x.piece(50, 5), 9);
    }

    private static void tenPieces() {
        check.sentence("Promise 2", "FULL if there are 10 pieces");
        CutConformer x = new CutConformer();
        for (int p = 0; p < 9; p++) x.piece(p, 1);
        check.due("the 10th", x.piece(9, 1), 9);
        check.due("an 11th", x.piece(10, 1), FULL);
        check.due("an 11th that is wrong", x.piece(10, 0), BAD);
        check.due("pieces", x.told(5), 10);
        check.due("the last one is the 10th", x.pieceAt(9, 0), 9);
        x.dropPiece(0);
        check.due("place again", x.piece(10, 1), 9);
        check.due("and full again", x.piece(11, 1), FULL);
    }

    private static void longestCut() {
        check.sentence("Promise 2", "or the new cut would be longer than 9999 frames.");
        CutConformer x = Make.cut(0, 5000);
        check.due("10000 frames", x.piece(0, 5000), FULL);
        check.due("9999 frames", x.piece(0, 4999), 1);
        check.due("the new cut", x.told(6), 9999);
        check.due("one frame more", x.piece(0, 1), FULL);
        check.due("a wrong one", x.piece(0, 5001), BAD);
        x.dropPiece(0);
        check.due("place again", x.piece(5000, 5000), 1);
        check.due("the new cut again", x.told(6), 9999);
    }

    private static void dropPieceRemoves() {
        check.sentence("Promise 3", "Removes a piece.");
        CutConformer x = Make.cut(10, 1, 20, 2, 30, 3);
        x.dropPiece(0);
        check.due("the first one: pieces", x.told(5), 2);
        check.due("the first one: what is first", x.pieceAt(0, 0), 20);
        x.dropPiece(1);
        check.due("the last one: pieces", x.told(5), 1);
        check.due("the last one: what stays", x.pieceAt(0, 0), 20);
        x.dropPiece(0);
        check.due("the only one: pieces", x.told(5), 0);
        check.due("the only one: its frames", x.toNew(20, 0), NONE);
    }

    private static void dropPieceNumbers() {
        check.sentence("Promise 3", "The numbers of the pieces behind it become smaller by 1.");
        CutConformer x = new CutConformer();
        for (int p = 0; p < 10; p++) x.piece(100 * p, p + 1);
        x.dropPiece(4);
        for (int p = 0; p < 9; p++) check.due("piece " + p, x.pieceAt(p, 0), p < 4 ? 100 * p : 100 * p + 100);
        check.due("its start", x.pieceAt(4, 2), 1 + 2 + 3 + 4);
        check.due("no 10th", x.pieceAt(9, 0), BAD);
        x.dropPiece(8);
        check.due("none behind the last one", x.pieceAt(7, 0), 800);
    }

    private static void dropPieceReturns() {
        check.sentence("Promise 3", "Returns the length of the new cut then");
        CutConformer x = Make.cut(0, 5000, 0, 4999);
        check.due("the longest", x.dropPiece(0), 4999);
        check.due("the only one", x.dropPiece(0), 0);
        check.due("told", x.told(6), 0);
    }

    private static void dropPieceBad() {
        check.sentence("Promise 3", "BAD if there is no such piece.");
        CutConformer x = new CutConformer();
        check.due("of none", x.dropPiece(0), BAD);
        for (int p = 0; p < 10; p++) x.piece(p, 1);
        for (int piece : new int[] {-1, 10, LEAST, GREATEST}) check.due("" + piece, x.dropPiece(piece), BAD);
        check.due("all there", x.told(5), 10);
        check.due("the 10th", x.dropPiece(9), 9);
        check.due("it is away", x.dropPiece(9), BAD);
    }

    private static void pieceAtFirst() {
        check.sentence("Promise 4", "0 for its first frame in the old cut");
        CutConformer x = Make.cut(0, 5, 9999, 1, 5000, 4000);
        check.due("the least", x.pieceAt(0, 0), 0);
        check.due("the greatest", x.pieceAt(1, 0), 9999);
        check.due("the last piece", x.pieceAt(2, 0), 5000);
    }

    private static void pieceAtLength() {
        check.sentence("Promise 4", "1 for its length");
        CutConformer x = Make.cut(0, 1, 5000, 5000, 7, 4998);
        check.due("the least", x.pieceAt(0, 1), 1);
        check.due("the greatest", x.pieceAt(1, 1), 5000);
        check.due("the last piece", x.pieceAt(2, 1), 4998);
    }

    private static void pieceAtStart() {
        check.sentence("Promise 4", "2 for its first frame in the new cut");
        CutConformer x = Make.cut(300, 5000, 200, 4998, 100, 1);
        check.due("the first piece", x.pieceAt(0, 2), 0);
        check.due("the one behind it", x.pieceAt(1, 2), 5000);
        check.due("the last frame that there can be", x.pieceAt(2, 2), 9998);
    }

    private static void pieceAtBad() {
        check.sentence("Promise 4", "BAD if there is no such piece or what is not 0 to 2.");
        CutConformer x = new CutConformer();
        check.due("of none", x.pieceAt(0, 0), BAD);
        x.piece(5, 6);
        for (int piece : new int[] {-1, 1, LEAST, GREATEST}) check.due("piece " + piece, x.pieceAt(piece, 0), BAD);
        for (int what : new int[] {-1, 3, LEAST, GREATEST}) check.due("what " + what, x.pieceAt(0, what), BAD);
        check.due("both", x.pieceAt(1, 3), BAD);
    }

    private static void shotSets() {
        check.sentence("Promise 5", "Sets a shot change, or takes it away.");
        CutConformer x = shots(300, 200, 100);
        check.due("one less", x.shot(200, false), 2);
        check.due("behind it", x.shotAt(1), 300);
        check.due("the first one less", x.shot(100, false), 1);
        check.due("the last one less", x.shot(300, false), 0);
        check.due("none is left", x.shotAt(0), NONE);
        check.due("one again", x.shot(200, true), 1);
        check.due("it is there", x.shotAt(0), 200);
    }

    private static void shotFrame() {
        check.sentence("Promise 5", "`frame`: 1 to 9998");
        CutConformer x = new CutConformer();
        for (int frame : new int[] {0, 9999, -1, 10000, LEAST, GREATEST}) {
            check.due(frame + " on", x.shot(frame, true), BAD);
            check.due(frame + " off", x.shot(frame, false), BAD);
        }
        check.due("1", x.shot(1, true), 1);
        check.due("9998", x.shot(9998, true), 2);
        check.due("1 off", x.shot(1, false), 1);
        check.due("9998 off", x.shot(9998, false), 0);
    }

    private static void shotOn() {
        check.sentence("Promise 5", "`on`: whether there is one then");
        CutConformer x = new CutConformer();
        check.due("off, and none was there", x.shot(50, false), 0);
        check.due("on", x.shot(50, true), 1);
        check.due("on, and it was there", x.shot(50, true), 1);
        check.due("there is no second one", x.shotAt(1), NONE);
        check.due("off", x.shot(50, false), 0);
        check.due("off again", x.shot(50, false), 0);
    }

    private static void shotFull() {
        check.sentence("Promise 5", "FULL if on is true, there is none at this frame, and there are 20.");
        CutConformer x = new CutConformer();
        for (int k = 1; k <= 19; k++) x.shot(k * 10, true);
        check.due("the 20th", x.shot(200, true), 20);
        check.due("a 21st", x.shot(201, true), FULL);
        check.due("one that is there", x.shot(200, true), 20);
        check.due("one that is not there, off", x.shot(201, false), 20);
        check.due("a wrong frame", x.shot(0, true), BAD);
        check.due("one less", x.shot(10, false), 19);
        check.due("place again", x.shot(1, true), 20);
        check.due("and full again", x.shot(10, true), FULL);
    }

    private static void shotAtPlace() {
        check.sentence("Promise 6", "`k`: its place among the shot changes, by frames, from 0");
        CutConformer x = new CutConformer();
        for (int k = 0; k < 20; k++) x.shot(1 + k * 7 % 20, true);
        for (int k = 0; k < 20; k++) check.due("" + k, x.shotAt(k), k + 1);
    }

    private static void shotAtNone() {
        check.sentence("Promise 6", "NONE if there are not so many");
        CutConformer x = new CutConformer();
        check.due("0 of none", x.shotAt(0), NONE);
        x.shot(9, true);
        check.due("1 of one", x.shotAt(1), NONE);
        for (int k = 10; k < 29; k++) x.shot(k, true);
        check.due("19 of 20", x.shotAt(19), 28);
        check.due("20 of 20", x.shotAt(20), NONE);
        check.due("21 of 20", x.shotAt(21), NONE);
        check.due("the greatest number", x.shotAt(GREATEST), NONE);
    }

    private static void shotAtBad() {
        check.sentence("Promise 6", "BAD if k is negative.");
        CutConformer x = new CutConformer();
        check.due("-1 of none", x.shotAt(-1), BAD);
        x.shot(9, true);
        check.due("-1 of one", x.shotAt(-1), BAD);
        check.due("-9", x.shotAt(-9), BAD);
        check.due("the least number", x.shotAt(LEAST), BAD);
        check.due("0", x.shotAt(0), 9);
    }

    private static void toNewFrame() {
        check.sentence("Promise 7", "Returns a frame of the new cut at which a frame of the old cut stands.");
        CutConformer x = Make.cut(100, 10, 0, 5, 9995, 5, 5000, 1);
        int[][] want = {{99, NONE}, {100, 0}, {109, 9}, {110, NONE}, {0, 10}, {4, 14}, {5, NONE}, {9994, NONE},
            {9995, 15}, {9999, 19}, {4999, NONE}, {5000, 20}, {5001, NONE}};
        for (int[] w : want) check.due("" + w[0], x.toNew(w[0], 0), w[1]);
    }

    private static void toNewPassesOver() {
        check.sentence("Promise 7", "`k`: how many such frames, in ascending order, are passed over, 0 or more");
        CutConformer x = new CutConformer();
        for (int p = 0; p < 10; p++) x.piece(50 - p, 10);
        for (int k = 0; k < 10; k++) check.due("frame 50, " + k, x.toNew(50, k), 11 * k);
        check.due("frame 50, 10", x.toNew(50, 10), NONE);
        check.due("frame 59, 0", x.toNew(59, 0), 9);
        check.due("frame 59, 1", x.toNew(59, 1), NONE);
        check.due("frame 41, 0", x.toNew(41, 0), 90);
        check.due("frame 41, 1", x.toNew(41, 1), NONE);
        check.due("frame 42, 1", x.toNew(42, 1), 91);
    }

    private static void toNewNone() {
        check.sentence("Promise 7", "NONE if there are not so many");
        CutConformer x = new CutConformer();
        check.due("no piece", x.toNew(0, 0), NONE);
        check.due("no piece, far", x.toNew(9999, GREATEST), NONE);
        x.piece(20, 5);
        x.piece(20, 5);
        check.due("two passed over", x.toNew(20, 2), NONE);
        check.due("far", x.toNew(20, GREATEST), NONE);
        check.due("in no piece", x.toNew(19, 0), NONE);
        check.due("the last one", x.toNew(24, 1), 9);
        x.dropPiece(1);
        check.due("the last piece is away", x.toNew(24, 1), NONE);
        x.dropPiece(0);
        check.due("all are away", x.toNew(24, 0), NONE);
        for (int p = 0; p < 10; p++) x.piece(p, 1);
        check.due("in none of ten", x.toNew(10, 0), NONE);
        check.due("once in ten", x.toNew(9, 1), NONE);
    }

    private static void toNewBad() {
        check.sentence("Promise 7", "BAD if an argument is out of range.");
        CutConformer x = Make.cut(0, 5000, 5001, 4999);
        for (int frame : new int[] {-1, 10000, LEAST, GREATEST}) check.due("frame " + frame, x.toNew(frame, 0), BAD);
        for (int k : new int[] {-1, -9, LEAST}) check.due("k " + k, x.toNew(0, k), BAD);
        check.due("a frame in no piece, and a wrong k", x.toNew(5000, -1), BAD);
        check.due("frame 0", x.toNew(0, 0), 0);
        check.due("frame 9999", x.toNew(9999, 0), 9998);
    }

    private static void toOldFrame() {
        check.sentence("Promise 8", "Returns the frame of the old cut that stands at a frame of the new cut.");
        CutConformer x = Make.cut(100, 10, 0, 1, 9995, 5);
        int[][] want = {{0, 100}, {9, 109}, {10, 0}, {11, 9995}, {15, 9999}};
        for (int[] w : want) check.due("" + w[0], x.toOld(w[0]), w[1]);
    }

    private static void toOldNone() {
        check.sentence("Promise 8", "NONE if the new cut is not so long");
        CutConformer x = new CutConformer();
        check.due("no piece", x.toOld(0), NONE);
        x.piece(0, 5000);
        check.due("the last frame", x.toOld(4999), 4999);
        check.due("the one behind it", x.toOld(5000), NONE);
        x.piece(0, 4999);
        check.due("the last frame that there can be", x.toOld(9998), 4998);
        check.due("the one behind it then", x.toOld(9999), NONE);
        x.dropPiece(1);
        check.due("the last piece is away", x.toOld(5000), NONE);
        x.dropPiece(0);
        check.due("all are away", x.toOld(0), NONE);
        for (int p = 0; p < 10; p++) x.piece(p, 1);
        check.due("the last frame of ten pieces", x.toOld(9), 9);
        check.due("the one behind ten pieces", x.toOld(10), NONE);
    }

    private static void toOldBad() {
        check.sentence("Promise 8", "BAD if frame is out of range.");
        CutConformer x = new CutConformer();
        for (int frame : new int[] {-1, 10000, LEAST, GREATEST}) check.due(frame + ", no piece", x.toOld(frame), BAD);
        x.piece(0, 5000);
        for (int frame : new int[] {-1, 10000, LEAST, GREATEST}) check.due(frame + ", a piece", x.toOld(frame), BAD);
        check.due("0", x.toOld(0), 0);
        check.due("9999", x.toOld(9999), NONE);
    }
}

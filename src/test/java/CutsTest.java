/** Promises 1 to 8: a new object, pieces, shot changes, and frames of both cuts. */
public final class CutsTest {
    private static final int BAD = -1, FULL = -3, NONE = -9;
    private static final Check check = new Check();

    public static void main(String[] args) {
        newObject();
        piece();
        mostPieces();
        dropPiece();
        pieceAt();
        shot();
        shotAt();
        toNew();
        toOld();
        check.end("CutsTest");
    }

    private static void newObject() {
        CutConformer x = new CutConformer();
        int[] atFirst = {2, 24, 2, 6, 16, 0, 0, 0, 0, 0, 0, 0};
        for (int what = 0; what < atFirst.length; what++) check.due("new told " + what, x.told(what), atFirst[what]);
        check.due("new undo", x.undo(), CutConformer.STATE);
        check.due("new clear", x.clear(), 0);
        CutConformer other = new CutConformer();
        other.piece(0, 10);
        check.due("objects are apart", x.told(5), 0);
    }

    private static void piece() {
        CutConformer x = new CutConformer();
        check.due("piece at 0", x.piece(0, 1), 0);
        check.due("piece to the last frame", x.piece(5000, 5000), 1);
        check.due("piece of the last frame", x.piece(9999, 1), 2);
        check.due("states", x.told(11), 3);
        check.due("first -1", x.piece(-1, 5), BAD);
        check.due("first 10000", x.piece(10000, 1), BAD);
        check.due("length 0", x.piece(5, 0), BAD);
        check.due("length -1", x.piece(5, -1), BAD);
        check.due("length 5001", x.piece(0, 5001), BAD);
        check.due("one frame too many", x.piece(5001, 5000), BAD);
        check.due("greatest numbers", x.piece(Integer.MAX_VALUE, Integer.MAX_VALUE), BAD);
        check.due("least numbers", x.piece(Integer.MIN_VALUE, Integer.MIN_VALUE), BAD);
        check.due("one frame over the new cut", x.piece(0, 4998), FULL);
        check.due("nothing changed", x.told(11), 3);
        check.due("the new cut is filled", x.piece(0, 4997), 3);
        check.due("its length", x.told(6), 9999);
        check.due("no frame more", x.piece(0, 1), FULL);
        check.due("BAD goes ahead of FULL", x.piece(0, 0), BAD);
    }

    private static void mostPieces() {
        CutConformer x = new CutConformer();
        for (int p = 0; p < 10; p++) check.due("piece " + p, x.piece(p, 1), p);
        check.due("an 11th", x.piece(0, 1), FULL);
        check.due("an 11th that is wrong", x.piece(9999, 2), BAD);
        check.due("pieces", x.told(5), 10);
        check.due("length", x.told(6), 10);
    }

    private static void dropPiece() {
        CutConformer x = new CutConformer();
        x.piece(100, 20);
        x.piece(300, 30);
        x.piece(200, 40);
        check.due("drop 3", x.dropPiece(3), BAD);
        check.due("drop -1", x.dropPiece(-1), BAD);
        check.due("states", x.told(11), 3);
        check.due("drop the middle one", x.dropPiece(1), 60);
        check.due("the one behind it: first", x.pieceAt(1, 0), 200);
        check.due("its length", x.pieceAt(1, 1), 40);
        check.due("its start", x.pieceAt(1, 2), 20);
        check.due("drop the last", x.dropPiece(1), 20);
        check.due("drop the only one", x.dropPiece(0), 0);
        check.due("drop none", x.dropPiece(0), BAD);
        check.due("states then", x.told(11), 6);
        check.due("undo", x.undo(), 5);
        check.due("it is back", x.pieceAt(0, 0), 100);
    }

    private static void pieceAt() {
        CutConformer x = new CutConformer();
        x.piece(7, 5);
        x.piece(3, 9);
        int[] want = {7, 5, 0, 3, 9, 5};
        for (int k = 0; k < 6; k++) check.due("pieceAt " + k, x.pieceAt(k / 3, k % 3), want[k]);
        check.due("no such piece", x.pieceAt(2, 0), BAD);
        check.due("piece -1", x.pieceAt(-1, 0), BAD);
        check.due("what 3", x.pieceAt(0, 3), BAD);
        check.due("what -1", x.pieceAt(0, -1), BAD);
    }

    private static void shot() {
        CutConformer x = new CutConformer();
        check.due("the last frame", x.shot(9998, true), 1);
        check.due("the first frame", x.shot(1, true), 2);
        check.due("once more", x.shot(1, true), 2);
        check.due("a change all the same", x.told(11), 3);
        check.due("none there", x.shot(5, false), 2);
        check.due("a change, too", x.told(11), 4);
        check.due("away", x.shot(9998, false), 1);
        check.due("frame 0", x.shot(0, true), BAD);
        check.due("frame 9999", x.shot(9999, false), BAD);
        check.due("states", x.told(11), 5);
        for (int k = 1; k < 20; k++) check.due("shot " + k, x.shot(100 * k, true), k + 1);
        check.due("a 21st", x.shot(50, true), FULL);
        check.due("wrong and full", x.shot(-7, true), BAD);
        check.due("one that is there", x.shot(100, true), 20);
        check.due("one that is not there, off", x.shot(50, false), 20);
        check.due("off", x.shot(100, false), 19);
        check.due("place again", x.shot(50, true), 20);
    }

    private static void shotAt() {
        CutConformer x = new CutConformer();
        x.shot(30, true);
        x.shot(10, true);
        x.shot(40, true);
        x.shot(20, true);
        x.shot(30, false);
        check.due("0", x.shotAt(0), 10);
        check.due("1", x.shotAt(1), 20);
        check.due("2", x.shotAt(2), 40);
        check.due("3", x.shotAt(3), NONE);
        check.due("far", x.shotAt(Integer.MAX_VALUE), NONE);
        check.due("-1", x.shotAt(-1), BAD);
        x.undo();
        check.due("undone", x.shotAt(2), 30);
    }

    private static void toNew() {
        CutConformer x = new CutConformer();
        check.due("no piece", x.toNew(0, 0), NONE);
        x.piece(100, 50);
        x.piece(0, 10);
        x.piece(120, 5);
        x.piece(0, 1);
        int[][] want = {
            {99, 0, NONE}, {100, 0, 0}, {149, 0, 49}, {150, 0, NONE}, {119, 1, NONE}, {120, 0, 20}, {120, 1, 60},
            {124, 1, 64}, {125, 1, NONE}, {120, 2, NONE}, {0, 0, 50}, {0, 1, 65}, {9, 0, 59}, {10, 0, NONE},
            {9999, 0, NONE}, {120, Integer.MAX_VALUE, NONE}, {10000, 0, BAD}, {-1, 0, BAD}, {0, -1, BAD},
            {-1, -1, BAD}};
        for (int[] w : want) check.due("toNew " + w[0] + " " + w[1], x.toNew(w[0], w[1]), w[2]);
    }

    private static void toOld() {
        CutConformer x = new CutConformer();
        check.due("no piece", x.toOld(0), NONE);
        x.piece(100, 50);
        x.piece(0, 10);
        x.piece(9999, 1);
        int[][] want = {{0, 100}, {49, 149}, {50, 0}, {59, 9}, {60, 9999}, {61, NONE}, {9999, NONE},
            {10000, BAD}, {-1, BAD}};
        for (int[] w : want) check.due("toOld " + w[0], x.toOld(w[0]), w[1]);
    }
}

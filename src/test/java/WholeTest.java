/** Promises 22 to 24: told, undo and digest. */
public final class WholeTest {
    private static final int BAD = -1, STATE = -2;
    private static final Check check = new Check();

    public static void main(String[] args) {
        told();
        undo();
        undoOfEach();
        mostStates();
        digest();
        digestByAnswers();
        check.end("WholeTest");
    }

    private static CutConformer filled() {
        CutConformer x = new CutConformer();
        x.piece(0, 500);
        x.piece(200, 100);
        x.shot(70, true);
        x.shot(30, true);
        Check.add(x, 10, 40, 0, "well, it is late and cold.");
        Check.add(x, 20, 50, 1, "yes");
        Check.add(x, 230, 240, 2, "so long");
        x.conform(2);
        return x;
    }

    private static void told() {
        CutConformer x = filled();
        int[] want = {2, 24, 2, 6, 16, 2, 600, 2, 2, 1, 7, 8};
        for (int what = 0; what < 12; what++) check.due("told " + what, x.told(what), want[what]);
        check.due("told 12", x.told(12), BAD);
        check.due("told -1", x.told(-1), BAD);
        check.due("told far", x.told(Integer.MIN_VALUE), BAD);
    }

    private static void undo() {
        CutConformer x = new CutConformer();
        check.due("nothing", x.undo(), STATE);
        x.set(0, 5);
        x.set(0, 6);
        Check.write(x, "abc");
        check.due("one", x.undo(), 1);
        check.due("value", x.told(0), 5);
        check.due("the buffer stays", x.told(10), 3);
        check.due("two", x.undo(), 0);
        check.due("first value", x.told(0), 2);
        check.due("three", x.undo(), STATE);
        check.due("undo is no change", x.told(11), 0);
    }

    private static void undoOfEach() {
        CutConformer x = filled();
        // with 8 states the oldest one would be dropped, and the digest tells how many there are
        x.set(0, 2);
        x.undo();
        for (int kind = 0; kind < 9; kind++) {
            long before = x.digest();
            change(x, kind);
            check.holds("another digest " + kind, x.digest() != before);
            check.due("states " + kind, x.told(11), 8);
            x.undo();
            check.due("as before " + kind, x.digest(), before);
        }
    }

    private static void change(CutConformer x, int kind) {
        switch (kind) {
            case 0: x.piece(5, 5); break;
            case 1: x.dropPiece(0); break;
            case 2: x.shot(99, true); break;
            case 3: x.shot(30, false); break;
            case 4: x.add(1, 2, 3); break;
            case 5: x.drop(0); break;
            case 6: x.move(0, 3, 300); break;
            case 7: x.set(4, 30); break;
            default: x.conform(1); break;
        }
    }

    private static void mostStates() {
        CutConformer x = new CutConformer();
        for (int v = 1; v <= 20; v++) x.set(0, v);
        check.due("8 states", x.told(11), 8);
        for (int k = 1; k <= 8; k++) {
            check.due("undo " + k, x.undo(), 8 - k);
            check.due("value " + k, x.told(0), 20 - k);
        }
        check.due("no 9th", x.undo(), STATE);
        check.due("the value stays", x.told(0), 12);
        for (int v = 1; v <= 3; v++) x.set(1, v);
        x.undo();
        x.set(1, 9);
        check.due("3 states", x.told(11), 3);
        x.undo();
        check.due("value then", x.told(1), 2);
        x.undo();
        check.due("value before", x.told(1), 1);
    }

    private static void digest() {
        CutConformer x = new CutConformer();
        long h = 18771;
        long[] values = {2, 24, 2, 6, 16, 0, 0, 0, 0, 0, 0, 0, 0, 0, 0, 0, 0, 0, 0, 0, 0, 0, 0, 0};
        for (long v : values) h = 31 * h + v;
        check.due("digest of a new object", x.digest(), h);
        check.due("digest once more", x.digest(), h);
    }

    private static void digestByAnswers() {
        CutConformer x = filled();
        Check.add(x, 300, 700, 3, "behind the cut, but long enough");
        check.holds("faults that differ", x.faults(0) != x.faults(1));
        check.due("digest by answers", x.digest(), hash(x));
        CutConformer full = filled();
        for (int p = 0; p < 8; p++) full.piece(0, 300);
        check.due("if it is FULL", full.ifConform(31, 0), -3);
        check.due("digest with FULL", full.digest(), hash(full));
    }

    private static long hash(CutConformer x) {
        long h = 18771;
        for (int what = 0; what < 12; what++) h = h * 31 + x.told(what);
        for (int k = 0; k < 3 * x.told(5); k++) h = h * 31 + x.pieceAt(k / 3, k % 3);
        for (int k = 0; k < x.told(7); k++) h = h * 31 + x.shotAt(k);
        for (int i = 0; i < x.told(8); i++) {
            for (int what = 0; what < 7; what++) h = h * 31 + x.subtitle(i, what);
            h = h * 31 + x.stretches(i);
            for (int p = 0; p < x.subtitle(i, 2); p++) {
                for (int what = 0; what < 4; what++) h = h * 31 + x.part(i, p, what);
                for (char c : Check.text(x, i, p).toCharArray()) h = h * 31 + c;
            }
        }
        for (int fault : new int[] {0, 1, 2, 4, 8, 16, 32}) h = h * 31 + x.faults(fault);
        for (int what = 0; what < 5; what++) h = h * 31 + x.ifConform(31, what);
        return h;
    }
}

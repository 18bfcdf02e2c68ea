/** Promises 22 and 23, told and undo, and the example of README.md. digest is in WholeEdgesTest. */
public final class WholeTest {
    private static final int BAD = -1, STATE = -2;
    private static final Check check = new Check();

    public static void main(String[] args) {
        told();
        undo();
        undoOfEach();
        mostStates();
        exampleOfReadme();
        check.end("WholeTest");
    }

    private static CutConformer filled() {
        CutConformer x = new CutConformer();
        x.piece(0, 500);
        x.piece(200, 100);
        x.shot(70, true);
        x.shot(30, true);
        Check.add(x, 10, 40, 0, "well, it is late and cold.");
        Check.add(x, 20, 50, 1, "yes");
        Check.add(x, 230, 240, 2, "so long");
        x.conform(2);
        return x;
    }

    private static void told() {
        CutConformer x = filled();
        int[] want = {2, 24, 2, 6, 16, 2, 600, 2, 2, 1, 7, 8};
        for (int what = 0; what < 12; what++) check.due("told " + what, x.told(what), want[what]);
        check.due("told 12", x.told(12), BAD);
        check.due("told -1", x.told(-1), BAD);
        check.due("told far", x.told(Integer.MIN_VALUE), BAD);
    }

    private static void undo() {
        CutConformer x = new CutConformer();
        check.due("nothing", x.undo(), STATE);
        x.set(0, 5);
        x.set(0, 6);
        Check.write(x, "abc");
        check.due("one", x.undo(), 1);
        check.due("value", x.told(0), 5);
        check.due("the buffer stays", x.told(10), 3);
        check.due("two", x.undo(), 0);
        check.due("first value", x.told(0), 2);
        check.due("three", x.undo(), STATE);
        check.due("undo is no change", x.told(11), 0);
    }

    private static void undoOfEach() {
        CutConformer x = filled();
        // with 8 states the oldest one would be dropped, and the digest tells how many there are
        x.set(0, 2);
        x.undo();
        for (int kind = 0; kind < 9; kind++) {
            long before = x.digest();
            change(x, kind);
            check.holds("another digest " + kind, x.digest() != before);
            check.due("states " + kind, x.told(11), 8);
            x.undo();
            check.due("as before " + kind, x.digest(), before);
        }
    }

    private static void change(CutConformer x, int kind) {
        switch (kind) {
            case 0: x.piece(5, 5); break;
            case 1: x.dropPiece(0); break;
            case 2: x.shot(99, true); break;
            case 3: x.shot(30, false); break;
            case 4: x.add(1, 2, 3); break;
            case 5: x.drop(0); break;
            case 6: x.move(0, 3, 300); break;
            case 7: x.set(4, 30); break;
            default: x.conform(1); break;
        }
    }

    private static void mostStates() {
        CutConformer x = new CutConformer();
        for (int v = 1; v <= 20; v++) x.set(0, v);
        check.due("8 states", x.told(11), 8);
        for (int k = 1; k <= 8; k++) {
            check.due("undo " + k, x.undo(), 8 - k);
            check.due("value " + k, x.told(0), 20 - k);
        }
        check.due("no 9th", x.undo(), STATE);
        check.due("the value stays", x.told(0), 12);
        for (int v = 1; v <= 3; v++) x.set(1, v);
        x.undo();
        x.set(1, 9);
        check.due("3 states", x.told(11), 3);
        x.undo();
        check.due("value then", x.told(1), 2);
        x.undo();
        check.due("value before", x.told(1), 1);
    }

    private static void exampleOfReadme() {
        CutConformer x = new CutConformer();
        check.due("first piece", x.piece(100, 200), 0);
        check.due("second piece", x.piece(400, 100), 1);
        check.due("shot change", x.shot(192, true), 1);
        for (char c : "well, it is late.".toCharArray()) x.type(c);
        check.due("add", x.add(290, 420, 1), 0);
        check.due("stretches", x.stretches(0), 1);
        check.due("greatest end", x.ifConform(31, 3), 224);
        check.due("conform", x.conform(31), 1);
        check.due("first frame", x.subtitle(0, 0), 192);
        check.due("end", x.subtitle(0, 1), 224);
        check.due("first line", x.part(0, 0, 2), 5);
        check.due("undo", x.undo(), 4);
        check.due("first frame before", x.subtitle(0, 0), 290);
    }
}

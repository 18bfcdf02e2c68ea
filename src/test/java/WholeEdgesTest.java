import java.math.BigInteger;
import java.util.ArrayList;
import java.util.List;

/** Promises 22 to 24: a method for each sentence that names a boundary case. */
public final class WholeEdgesTest {
    private static final int BAD = -1, STATE = -2, FULL = -3, NONE = -9;
    private static final Check check = new Check();

    public static void main(String[] args) {
        toldSettings();
        toldOthers();
        toldPairs();
        toldMost();
        toldBad();
        undoReturns();
        undoNotRemembered();
        undoBuffer();
        undoEach();
        undoOverwritten();
        undoOfMost();
        undoState();
        digestOfNew();
        digestWrapsAround();
        digestOrder();
        digestFull();
        digestOfMost();
        check.end("WholeEdgesTest");
    }

    private static void toldSettings() {
        check.sentence("Promise 22", "0 to 4 for the settings");
        CutConformer x = new CutConformer();
        int[] least = {1, 1, 0, 0, 8};
        int[] greatest = {20, 200, 50, 50, 40};
        for (int what = 0; what < 5; what++) {
            x.set(what, least[what]);
            check.due("least " + what, x.told(what), least[what]);
            x.set(what, greatest[what]);
            check.due("greatest " + what, x.told(what), greatest[what]);
        }
    }

    private static void toldOthers() {
        check.sentence("Promise 22", "5 for the pieces, 6 for the length of the new cut, 7 for the shot changes, 8 for the subtitles, 9 "
            + "for those with two parts, 10 for the bytes of the text buffer, 11 for the remembered states");
        CutConformer x = new CutConformer();
        for (int what = 5; what <= 11; what++) check.due("at first " + what, x.told(what), 0);
        x.piece(10, 700);
        x.piece(10, 7);
        x.shot(5, true);
        x.shot(6, true);
        x.shot(7, true);
        Check.add(x, 10, 20, 0, "abcde");
        int[] want = {2, 707, 3, 1, 0, 5, 6};
        for (int what = 5; what <= 11; what++) check.due("" + what, x.told(what), want[what - 5]);
    }

    private static void toldPairs() {
        check.sentence("Promise 22", "9 for those with two parts");
        CutConformer x = new CutConformer();
        x.type('a');
        for (int i = 0; i < 16; i++) x.add(10, 20, i % 2);
        check.due("none", x.told(9), 0);
        x.conform(2);
        check.due("all of 8", x.told(9), 8);
        x.add(10, 20, 0);
        check.due("not the new one", x.told(9), 8);
        x.drop(0);
        check.due("one less", x.told(9), 7);
        x.undo();
        x.undo();
        x.undo();
        check.due("undone", x.told(9), 0);
    }

    private static void toldMost() {
        check.sentence("Promise 22", "Returns one of several numbers.");
        CutConformer x = Make.most(Make.FORTY);
        int[] want = {2, 24, 2, 6, 16, 10, 9999, 20, 16, 0, 40, 8};
        for (int what = 0; what <= 11; what++) check.due("" + what, x.told(what), want[what]);
    }

    private static void toldBad() {
        check.sentence("Promise 22", "BAD if what is not 0 to 11.");
        CutConformer x = Make.most(Make.FORTY);
        for (int what : new int[] {-1, 12, -9, Integer.MIN_VALUE, Integer.MAX_VALUE}) check.due("" + what, x.told(what), BAD);
    }

    private static void undoReturns() {
        check.sentence("Promise 23", "Returns how many states are still remembered");
        CutConformer x = Make.most(Make.FORTY);
        for (int left = 7; left >= 0; left--) check.due("left", x.undo(), left);
        check.due("8 subtitles less", x.told(8), 8);
        CutConformer y = new CutConformer();
        y.shot(5, false);
        check.due("the only one", y.undo(), 0);
    }

    private static void undoNotRemembered() {
        check.sentence("Promise 23", "Returns to the latest remembered state, which is not remembered any more then.");
        CutConformer x = new CutConformer();
        x.set(1, 7);
        x.set(1, 8);
        x.undo();
        check.due("the one before", x.told(1), 7);
        x.undo();
        check.due("the first one", x.told(1), 24);
        x.undo();
        check.due("there is no way on", x.told(1), 24);
        x.set(1, 9);
        x.undo();
        x.undo();
        check.due("nor over it", x.told(1), 24);
    }

    private static void undoBuffer() {
        check.sentence("Promise 23", "The text buffer stays.");
        CutConformer x = new CutConformer();
        Check.add(x, 10, 20, 0, "abc");
        x.type('d');
        x.undo();
        check.due("bytes", x.told(10), 4);
        x.add(10, 20, 0);
        check.holds("text", Check.text(x, 0, 0).equals("abcd"));
        x.clear();
        x.undo();
        check.due("empty", x.told(10), 0);
        check.due("no text", x.add(10, 20, 0), -10);
        check.due("nor is it a state", x.undo(), STATE);
    }

    private static void undoEach() {
        check.sentence("CHANGES", "the state (pieces, shot changes, subtitles, settings)");
        CutConformer x = new CutConformer();
        x.piece(50, 10);
        x.shot(60, true);
        Check.add(x, 50, 60, 2, "one");
        Check.add(x, 50, 60, 3, "two");
        x.conform(2);
        x.drop(0);
        x.undo();
        check.due("parts", x.subtitle(0, 2), 2);
        check.holds("second text", Check.text(x, 0, 1).equals("two"));
        check.due("second speaker", x.part(0, 1, 0), 3);
        x.undo();
        check.due("one part each", x.subtitle(0, 2), 1);
        check.times("both", x, "50-60 50-60");
        x.undo();
        x.undo();
        check.due("no subtitle", x.told(8), 0);
        check.due("a shot change", x.shotAt(0), 60);
        x.undo();
        check.due("no shot change", x.shotAt(0), NONE);
        check.due("a piece", x.pieceAt(0, 0), 50);
        check.due("the last one", x.undo(), 0);
        check.due("no piece", x.told(5), 0);
    }

    private static void undoOverwritten() {
        check.sentence("Promise 23", "Returns to the latest remembered state");
        CutConformer x = new CutConformer();
        x.piece(50, 10);
        x.dropPiece(0);
        x.piece(90, 20);
        x.undo();
        x.undo();
        check.due("first frame of a piece", x.pieceAt(0, 0), 50);
        check.due("length of a piece", x.pieceAt(0, 1), 10);
        x.shot(30, true);
        x.shot(30, false);
        x.shot(70, true);
        x.undo();
        x.undo();
        check.due("a shot change", x.shotAt(0), 30);
        Check.add(x, 10, 20, 1, "one");
        x.drop(0);
        Check.add(x, 30, 40, 2, "other");
        x.undo();
        x.undo();
        check.times("a subtitle", x, "10-20");
        check.due("its speaker", x.part(0, 0, 0), 1);
        check.holds("its text", Check.text(x, 0, 0).equals("one"));
        x.set(3, 9);
        x.set(3, 0);
        x.undo();
        check.due("a setting", x.told(3), 9);
    }

    private static void undoOfMost() {
        check.sentence("Promise 23", "Returns to the latest remembered state");
        CutConformer x = Make.most("a");
        x.shot(2000, false);
        x.shot(1999, true);
        x.undo();
        x.undo();
        check.due("the 20th shot change", x.shotAt(19), 2000);
        x.dropPiece(9);
        x.piece(5, 6);
        x.undo();
        x.undo();
        check.due("the 10th piece", x.pieceAt(9, 1), 999);
        x.drop(15);
        x.add(9000, 9001, 0);
        x.undo();
        x.undo();
        check.due("the 16th subtitle", x.subtitle(15, 0), 150);
        x.set(4, 40);
        x.set(4, 8);
        x.undo();
        x.undo();
        check.due("the last setting", x.told(4), 16);
    }

    private static void undoState() {
        check.sentence("Promise 23", "STATE if there is none.");
        CutConformer x = new CutConformer();
        check.due("of a new object", x.undo(), STATE);
        x.set(1, 7);
        x.undo();
        check.due("after the only one", x.undo(), STATE);
        check.due("once more", x.undo(), STATE);
        check.due("states", x.told(11), 0);
        for (int k = 0; k < 30; k++) x.set(1, 7);
        for (int k = 0; k < 8; k++) x.undo();
        check.due("after eight", x.undo(), STATE);
    }

    private static void digestOfNew() {
        check.sentence("Promise 24", "h is 18771 at first");
        long h = 18771;
        int[] values = {2, 24, 2, 6, 16, 0, 0, 0, 0, 0, 0, 0, 0, 0, 0, 0, 0, 0, 0, 0, 0, 0, 0, 0};
        for (int v : values) h = 31 * h + v;
        check.due("of a new object", new CutConformer().digest(), h);
    }

    private static void digestWrapsAround() {
        check.sentence("Promise 24", "then h becomes 31 * h + v (long arithmetic that wraps around)");
        CutConformer[] objects = {new CutConformer(), talk(), Make.most("a b")};
        for (CutConformer x : objects) {
            BigInteger h = BigInteger.valueOf(18771);
            for (int v : values(x)) h = h.multiply(BigInteger.valueOf(31)).add(BigInteger.valueOf(v));
            check.holds("more than 64 bits", h.bitLength() > 64);
            check.due("its last 64 bits", x.digest(), h.longValue());
        }
    }

    private static void digestOrder() {
        check.sentence("Promise 24", "for each of these values v, in this order: told() for 0 to 11; for each piece pieceAt() for 0 to 2; "
            + "the shot changes in ascending order; for each subtitle subtitle() for 0 to 6, stretches(), and for each of its parts "
            + "part() for 0 to 3 and for all bytes of its text; faults() for 0, 1, 2, 4, 8, 16 and 32");
        CutConformer x = talk();
        check.due("two parts", x.told(9), 1);
        check.due("all of 63 faults", x.subtitle(1, 5), 63);
        check.due("NONE among the values", x.subtitle(3, 6), NONE);
        long h = 18771;
        for (int v : values(x)) h = 31 * h + v;
        check.due("digest", x.digest(), h);
        check.due("digest is no change", x.digest(), h);
    }

    private static void digestFull() {
        check.sentence("Promise 24", "ifConform(31, what) for 0 to 4 (also if it is FULL)");
        CutConformer x = Make.most("a");
        for (int what = 0; what <= 4; what++) check.due("ifConform " + what, x.ifConform(31, what), FULL);
        long h = 18771;
        List<Integer> values = values(x);
        for (int v : values) h = 31 * h + v;
        check.due("digest", x.digest(), h);
        check.due("its last value", values.get(values.size() - 1), FULL);
    }

    private static void digestOfMost() {
        check.sentence("Promise 24", "Computes a hash of the whole object.");
        CutConformer x = Make.most(Make.FORTY);
        check.due("two objects alike", x.digest(), Make.most(Make.FORTY).digest());
        long before = x.digest();
        x.clear();
        check.holds("the bytes of the buffer count", x.digest() != before);
        x.set(0, 3);
        x.undo();
        check.due("states", x.told(11), 7);
        check.holds("so do the remembered states", x.digest() != before);
    }

    /** Each kind of value, and each fault. */
    private static CutConformer talk() {
        CutConformer x = new CutConformer();
        x.shot(99, true);
        x.shot(31, true);
        Check.add(x, 10, 60, 0, "well, it is late and cold.");
        Check.add(x, 30, 50, 1, "so it is. or not");
        x.conform(2);
        Check.add(x, 100, 103, 0, "seventeenletterss");
        Check.add(x, 100, 200, 1, "b");
        Check.add(x, 104, 200, 2, "c");
        x.piece(0, 20);
        x.piece(15, 10);
        return x;
    }

    /** The values of the digest, as the other methods answer. */
    private static List<Integer> values(CutConformer x) {
        List<Integer> all = new ArrayList<>();
        for (int what = 0; what <= 11; what++) all.add(x.told(what));
        for (int p = 0; p < x.told(5); p++) {
            for (int what = 0; what <= 2; what++) all.add(x.pieceAt(p, what));
        }
        for (int k = 0; k < x.told(7); k++) all.add(x.shotAt(k));
        for (int i = 0; i < x.told(8); i++) valuesOf(x, i, all);
        for (int fault : new int[] {0, 1, 2, 4, 8, 16, 32}) all.add(x.faults(fault));
        for (int what = 0; what <= 4; what++) all.add(x.ifConform(31, what));
        return all;
    }

    private static void valuesOf(CutConformer x, int i, List<Integer> all) {
        for (int what = 0; what <= 6; what++) all.add(x.subtitle(i, what));
        all.add(x.stretches(i));
        for (int p = 0; p < x.subtitle(i, 2); p++) {
            for (int what = 0; what <= 3; what++) all.add(x.part(i, p, what));
            int bytes = x.part(i, p, 1);
            for (int b = 0; b < bytes; b++) all.add(x.part(i, p, 10 + b));
        }
    }
}

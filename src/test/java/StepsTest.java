/** Promises 16 to 21: settings, the steps of a conform, stretches, what is shown, and faults. */
public final class StepsTest {
    private static final int BAD = -1, FULL = -3, NONE = -9;
    private static final Check check = new Check();

    public static void main(String[] args) {
        set();
        conformArguments();
        mapping();
        mappingJoins();
        mappingOrder();
        mappingFull();
        merging();
        mergingKeepsPlaces();
        reading();
        snapping();
        snappingOrder();
        gaps();
        stepsInOrder();
        ifConform();
        stretches();
        shown();
        faults();
        check.end("StepsTest");
    }

    private static void set() {
        CutConformer x = new CutConformer();
        int[] lowest = {1, 1, 0, 0, 8};
        int[] highest = {20, 200, 50, 50, 40};
        int[] atFirst = {2, 24, 2, 6, 16};
        for (int what = 0; what < 5; what++) {
            check.due("too small " + what, x.set(what, lowest[what] - 1), BAD);
            check.due("too great " + what, x.set(what, highest[what] + 1), BAD);
            check.due("lowest " + what, x.set(what, lowest[what]), atFirst[what]);
            check.due("highest " + what, x.set(what, highest[what]), lowest[what]);
            check.due("told " + what, x.told(what), highest[what]);
        }
        check.due("what 5", x.set(5, 10), BAD);
        check.due("what -1", x.set(-1, 10), BAD);
        check.due("states", x.told(11), 8);
        x.undo();
        check.due("undone", x.told(4), 8);
        check.due("the others stay", x.told(3), 50);
    }

    private static void conformArguments() {
        CutConformer x = new CutConformer();
        check.due("0", x.conform(0), BAD);
        check.due("32", x.conform(32), BAD);
        check.due("-1", x.conform(-1), BAD);
        check.due("no change", x.told(11), 0);
        for (int steps = 1; steps <= 31; steps++) check.due("conform " + steps, x.conform(steps), 0);
        check.due("changes, though all is as before", x.told(11), 8);
    }

    private static void mapping() {
        CutConformer x = new CutConformer();
        x.piece(100, 50);
        x.piece(300, 50);
        x.piece(110, 10);
        Check.add(x, 90, 103, 0, "three frames");
        Check.add(x, 90, 104, 0, "four frames");
        Check.add(x, 112, 118, 1, "twice");
        Check.add(x, 146, 304, 2, "two pieces, one stretch");
        Check.add(x, 146, 303, 2, "one");
        Check.add(x, 147, 304, 2, "other");
        Check.add(x, 200, 250, 2, "none");
        x.conform(1);
        check.times("mapped", x, "0-4 12-18 46-54 46-50 50-54 102-108");
        check.holds("text", Check.text(x, 0, 0).equals("four frames"));
        check.holds("text of a copy", Check.text(x, 5, 0).equals("twice"));
        check.due("speaker of a copy", x.part(5, 0, 0), 1);
        check.due("pieces stay", x.told(5), 3);
        CutConformer none = new CutConformer();
        Check.add(none, 0, 9999, 0, "lost");
        check.due("without pieces", none.conform(1), 0);
    }

    private static void mappingJoins() {
        CutConformer x = new CutConformer();
        x.piece(0, 10);
        x.piece(5, 10);
        x.piece(30, 4);
        x.piece(14, 4);
        x.piece(0, 3);
        x.piece(0, 4);
        Check.add(x, 0, 20, 0, "a");
        check.due("stretches", x.stretches(0), 3);
        check.due("mapped", x.conform(1), 3);
        check.times("joined", x, "0-20 24-28 31-35");
        x.undo();
        x.drop(0);
        Check.add(x, 0, 40, 0, "a");
        check.due("all but the short one", x.conform(1), 2);
        check.times("joined, too", x, "0-28 31-35");
    }

    private static void mappingOrder() {
        CutConformer x = new CutConformer();
        x.piece(50, 50);
        x.piece(0, 50);
        x.piece(50, 50);
        Check.add(x, 10, 60, 0, "a");
        Check.add(x, 50, 60, 1, "b");
        Check.add(x, 50, 70, 2, "c");
        check.due("mapped", x.conform(1), 6);
        check.times("in their order", x, "0-10 0-10 0-20 60-110 100-110 100-120");
        int[] speakers = {0, 1, 2, 0, 1, 2};
        for (int i = 0; i < 6; i++) check.due("speaker of " + i, x.part(i, 0, 0), speakers[i]);
    }

    private static void mappingFull() {
        CutConformer x = new CutConformer();
        for (int p = 0; p < 8; p++) x.piece(0, 100);
        Check.add(x, 10, 20, 0, "a");
        Check.add(x, 10, 20, 1, "b");
        check.due("16 of 2", x.ifConform(1, 0), 16);
        check.due("merged", x.conform(3), 8);
        x.undo();
        Check.add(x, 10, 20, 1, "c");
        int states = x.told(11);
        check.due("24", x.conform(1), FULL);
        check.due("24 with merging", x.conform(31), FULL);
        check.due("24, if", x.ifConform(1, 4), FULL);
        check.due("no change", x.told(11), states);
        check.times("nothing is mapped", x, "10-20 10-20 10-20");
        check.due("without mapping", x.conform(30), 2);
        CutConformer y = new CutConformer();
        for (int p = 0; p < 4; p++) y.piece(0, 100);
        for (int i = 0; i < 5; i++) Check.add(y, 10, 20, 0, "a");
        check.due("20", y.conform(1), FULL);
        y.drop(4);
        check.due("16", y.conform(1), 16);
        for (int p = 0; p < 4; p++) y.dropPiece(0);
        y.piece(0, 100);
        y.piece(0, 10);
        check.times("all", y, "10-20 10-20 10-20 10-20 110-120 110-120 110-120 110-120 "
            + "210-220 210-220 210-220 210-220 310-320 310-320 310-320 310-320");
        check.due("4 stay, 12 are lost", y.ifConform(1, 4), 12);
    }

    private static void merging() {
        CutConformer x = new CutConformer();
        Check.add(x, 0, 20, 0, "a");
        Check.add(x, 10, 40, 1, "b");
        check.due("half of the shorter one", x.conform(2), 1);
        check.due("parts", x.subtitle(0, 2), 2);
        check.times("merged", x, "0-40");
        check.due("first speaker", x.part(0, 0, 0), 0);
        check.due("second speaker", x.part(0, 1, 0), 1);
        x.undo();
        x.move(0, 0, 19);
        check.due("9 of 19", x.ifConform(2, 0), 2);
        x.move(1, 10, 28);
        check.due("9 of 18", x.ifConform(2, 0), 1);
        x.move(0, 0, 99);
        check.due("within", x.conform(2), 1);
        check.times("the greater end", x, "0-99");
        CutConformer y = new CutConformer();
        Check.add(y, 0, 20, 2, "a");
        Check.add(y, 0, 20, 2, "b");
        check.due("one speaker", y.conform(2), 2);
        check.due("apart", y.move(1, 20, 40), 1);
        Check.add(y, 40, 41, 1, "c");
        check.due("no common frames", y.conform(2), 3);
        y.move(2, 39, 41);
        check.due("one common frame", y.conform(2), 2);
    }

    private static void mergingKeepsPlaces() {
        CutConformer x = new CutConformer();
        Check.add(x, 0, 20, 0, "a");
        Check.add(x, 0, 20, 1, "b");
        Check.add(x, 0, 20, 2, "c");
        Check.add(x, 0, 30, 3, "d");
        Check.add(x, 0, 40, 0, "e");
        check.due("five", x.conform(2), 3);
        check.times("pairs", x, "0-20 0-30 0-40");
        check.due("told of pairs", x.told(9), 2);
        check.due("third speaker", x.part(1, 0, 0), 2);
        check.due("fourth speaker", x.part(1, 1, 0), 3);
        check.due("two parts are not merged", x.conform(2), 3);
        CutConformer y = new CutConformer();
        Check.add(y, 0, 20, 0, "a");
        Check.add(y, 0, 20, 0, "b");
        Check.add(y, 5, 20, 1, "c");
        check.due("the second with the third", y.conform(2), 2);
        check.due("first alone", y.subtitle(0, 2), 1);
        check.due("a pair", y.subtitle(1, 2), 2);
    }

    private static void reading() {
        CutConformer x = new CutConformer();
        x.piece(0, 200);
        Check.add(x, 10, 20, 0, "a");
        x.conform(4);
        check.times("the least length", x, "10-34");
        x.set(0, 20);
        x.conform(4);
        check.times("long enough", x, "10-34");
        x.set(0, 10);
        Check.add(x, 100, 101, 0, "abcde");
        x.conform(4);
        check.times("by characters", x, "10-34 100-150");
        x.move(1, 190, 195);
        x.conform(4);
        check.times("to the end of the cut", x, "10-34 190-200");
        x.move(1, 199, 300);
        x.move(0, 10, 12);
        x.set(2, 3);
        x.shot(12, true);
        Check.add(x, 30, 40, 1, "n");
        Check.add(x, 30, 60, 1, "n");
        x.conform(4);
        check.times("not into the gap", x, "10-27 30-54 30-60 199-300");
        x.move(0, 10, 29);
        x.set(1, 30);
        x.conform(4);
        check.times("never earlier", x, "10-29 30-60 30-60 199-300");
        CutConformer y = new CutConformer();
        Check.add(y, 10, 20, 0, "a");
        y.conform(4);
        check.times("without pieces", y, "10-20");
    }

    private static void snapping() {
        CutConformer x = new CutConformer();
        x.shot(94, true);
        x.shot(106, true);
        x.shot(213, true);
        Check.add(x, 100, 207, 0, "a");
        x.conform(8);
        check.times("of two the smaller one", x, "94-213");
        x.move(0, 101, 206);
        x.conform(8);
        check.times("the nearer one, and none in reach", x, "106-206");
        x.move(0, 87, 90);
        x.conform(8);
        check.times("only the end", x, "87-94");
        x.move(0, 92, 94);
        x.conform(8);
        check.times("not to the end", x, "92-94");
        x.move(0, 95, 96);
        x.conform(8);
        check.times("the end not to the first frame", x, "94-96");
        x.move(0, 107, 110);
        x.conform(8);
        check.times("not to a frame behind which nothing is left", x, "106-110");
        x.shot(108, true);
        x.move(0, 108, 109);
        x.conform(8);
        check.times("not the second nearest", x, "108-109");
        x.set(3, 0);
        x.move(0, 95, 107);
        x.conform(8);
        check.times("no reach", x, "95-107");
        x.set(3, 50);
        x.shot(50, true);
        x.move(0, 0, 163);
        x.conform(8);
        check.times("the widest reach", x, "50-213");
    }

    private static void snappingOrder() {
        CutConformer x = new CutConformer();
        x.shot(50, true);
        Check.add(x, 45, 90, 0, "a");
        Check.add(x, 47, 90, 1, "b");
        Check.add(x, 50, 90, 2, "c");
        Check.add(x, 53, 90, 3, "d");
        x.set(3, 3);
        x.conform(8);
        check.times("together", x, "45-90 50-90 50-90 50-90");
        for (int i = 0; i < 4; i++) check.due("speaker " + i, x.part(i, 0, 0), i);
        CutConformer y = new CutConformer();
        y.shot(50, true);
        Check.add(y, 44, 50, 0, "a");
        Check.add(y, 45, 49, 1, "b");
        Check.add(y, 46, 90, 2, "c");
        Check.add(y, 48, 90, 3, "d");
        y.conform(8);
        check.times("some stay", y, "44-50 45-50 50-90 50-90");
        CutConformer z = new CutConformer();
        z.shot(50, true);
        Check.add(z, 46, 90, 0, "late");
        Check.add(z, 47, 49, 1, "stays");
        z.conform(8);
        check.times("passed", z, "47-50 50-90");
        check.due("who passed", z.part(0, 0, 0), 1);
    }

    private static void gaps() {
        CutConformer x = new CutConformer();
        x.set(2, 5);
        Check.add(x, 10, 30, 0, "a");
        Check.add(x, 30, 90, 1, "b");
        Check.add(x, 30, 31, 2, "c");
        Check.add(x, 33, 50, 3, "d");
        Check.add(x, 60, 9999, 0, "e");
        x.conform(16);
        check.times("kept apart", x, "10-25 30-31 30-31 33-50 60-9999");
        x.set(2, 0);
        x.move(1, 30, 40);
        x.conform(16);
        check.times("no gap", x, "10-25 30-31 30-33 33-50 60-9999");
    }

    private static void stepsInOrder() {
        CutConformer x = new CutConformer();
        x.piece(100, 100);
        x.piece(500, 100);
        x.shot(21, true);
        x.shot(50, true);
        x.shot(99, true);
        Check.add(x, 120, 140, 0, "who is there");
        Check.add(x, 125, 138, 1, "me");
        Check.add(x, 150, 160, 2, "and me");
        Check.add(x, 195, 510, 3, "over the cut");
        Check.add(x, 700, 710, 3, "lost");
        check.due("all", x.conform(31), 3);
        check.times("all", x, "21-48 50-74 99-119");
        x.undo();
        check.times("back", x, "120-140 125-138 150-160 195-510 700-710");
        x.conform(1);
        check.times("mapped", x, "20-40 25-38 50-60 95-110");
        x.conform(2);
        check.times("merged", x, "20-40 50-60 95-110");
        x.conform(4);
        check.times("read", x, "20-48 50-74 95-119");
        x.conform(8);
        check.times("snapped", x, "21-50 50-74 99-119");
        x.conform(16);
        check.times("apart", x, "21-48 50-74 99-119");
    }

    private static void ifConform() {
        CutConformer x = new CutConformer();
        for (int what = 0; what < 5; what++) check.due("empty " + what, x.ifConform(31, what), 0);
        x.piece(100, 100);
        Check.add(x, 90, 95, 0, "a");
        Check.add(x, 120, 140, 1, "b");
        Check.add(x, 150, 190, 2, "c");
        long before = x.digest();
        int[][] want = {{1, 2, 60, 1, 90, 1}, {5, 2, 64, 0, 90, 1}, {4, 3, 70, 3, 190, 0}, {2, 3, 65, 3, 190, 0}};
        for (int[] w : want) {
            for (int what = 0; what < 5; what++) {
                check.due("ifConform " + w[0] + " " + what, x.ifConform(w[0], what), w[what + 1]);
            }
        }
        check.due("nothing changed", x.digest(), before);
        check.due("what 5", x.ifConform(1, 5), BAD);
        check.due("what -1", x.ifConform(1, -1), BAD);
        check.due("steps 0", x.ifConform(0, 0), BAD);
        check.due("steps 32", x.ifConform(32, 0), BAD);
        for (int p = 0; p < 9; p++) x.piece(0, 200);
        check.due("27", x.ifConform(1, 0), FULL);
        check.due("BAD goes ahead", x.ifConform(1, 9), BAD);
        check.due("27 without mapping", x.ifConform(2, 0), 3);
        x.move(0, 0, 5000);
        check.due("the first one ends last", x.ifConform(2, 3), 5000);
    }

    private static void stretches() {
        CutConformer x = new CutConformer();
        Check.add(x, 10, 20, 0, "a");
        check.due("no pieces", x.stretches(0), 0);
        for (int p = 0; p < 10; p++) x.piece(0, 100);
        check.due("as many as there can be", x.stretches(0), 10);
        check.due("no change", x.told(8), 1);
        x.move(0, 97, 200);
        check.due("too short", x.stretches(0), 0);
        x.move(0, 96, 200);
        check.due("long enough", x.stretches(0), 10);
        x.move(0, 0, 200);
        check.due("one stretch of all", x.stretches(0), 1);
        check.due("no such one", x.stretches(1), BAD);
        check.due("-1", x.stretches(-1), BAD);
    }

    private static void shown() {
        CutConformer x = new CutConformer();
        check.due("nothing", x.shown(0), 0);
        for (int i = 0; i < 16; i++) Check.add(x, 10 + i, 100, 0, "a");
        check.due("before", x.shown(9), 0);
        check.due("first", x.shown(10), 1);
        check.due("three", x.shown(12), 7);
        check.due("all", x.shown(99), 65535);
        check.due("behind", x.shown(100), 0);
        check.due("last frame", x.shown(9999), 0);
        check.due("10000", x.shown(10000), BAD);
        check.due("-1", x.shown(-1), BAD);
        x.move(3, 5, 8);
        check.due("moved", x.shown(7), 1);
    }

    private static void faults() {
        CutConformer x = new CutConformer();
        int[] kinds = {0, 1, 2, 4, 8, 16, 32};
        for (int kind : kinds) check.due("none of " + kind, x.faults(kind), 0);
        x.piece(0, 300);
        Check.add(x, 10, 20, 0, "a");
        Check.add(x, 10, 90, 1, "a");
        Check.add(x, 50, 90, 2, "b");
        Check.add(x, 101, 400, 3, "anuncommonlylongword");
        Check.add(x, 500, 600, 3, "c");
        x.shot(100, true);
        int[] want = {4, 1, 1, 2, 1, 1, 2};
        for (int k = 0; k < kinds.length; k++) check.due("faults " + kinds[k], x.faults(kinds[k]), want[k]);
        int[] wrong = {-1, 3, 5, 6, 7, 31, 33, 63, 64, 128, 1 << 30, Integer.MIN_VALUE, Integer.MAX_VALUE};
        for (int w : wrong) check.due("faults " + w, x.faults(w), BAD);
        CutConformer y = new CutConformer();
        Check.add(y, 10, 90, 0, "a");
        Check.add(y, 10, 90, 1, "anuncommonlylongword");
        y.conform(2);
        check.due("a line of the second part", y.faults(16), 1);
        y.set(4, 20);
        check.due("it fits", y.faults(16), 0);
        check.due("NONE is no answer here", y.faults(NONE), BAD);
    }
}

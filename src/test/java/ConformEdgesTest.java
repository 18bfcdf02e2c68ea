/** Promises 16 to 21: a method for each sentence that names a boundary case. */
public final class ConformEdgesTest {
    private static final int BAD = -1, FULL = -3;
    private static final int LEAST = Integer.MIN_VALUE, GREATEST = Integer.MAX_VALUE;
    private static final Check check = new Check();

    public static void main(String[] args) {
        setRanges();
        setReturns();
        setBad();
        conformInOrder();
        conformSteps();
        conformReturns();
        conformBad();
        conformFull();
        ifConformNothingChanges();
        ifConformNumber();
        ifConformLengths();
        ifConformFaulty();
        ifConformGreatestEnd();
        ifConformLost();
        ifConformBad();
        ifConformFull();
        stretchesOfMapping();
        stretchesBad();
        shownMask();
        shownBad();
        faultsOfOneKind();
        faultsOfAny();
        faultsBad();
        check.end("ConformEdgesTest");
    }

    private static void setRanges() {
        check.sentence("SETTINGS", "0 the frames that a character needs (1 to 20; 2); 1 the least length (1 to 200; 24); 2 the gap "
            + "(0 to 50; 2); 3 the reach (0 to 50; 6); 4 the width of lines (8 to 40; 16).");
        int[][] ranges = {{1, 20, 2}, {1, 200, 24}, {0, 50, 2}, {0, 50, 6}, {8, 40, 16}};
        for (int what = 0; what < 5; what++) {
            CutConformer x = new CutConformer();
            int least = ranges[what][0];
            int greatest = ranges[what][1];
            check.due(what + " at first", x.told(what), ranges[what][2]);
            check.due(what + " below", x.set(what, least - 1), BAD);
            check.due(what + " above", x.set(what, greatest + 1), BAD);
            check.due(what + " stays", x.told(what), ranges[what][2]);
            check.due(what + " least", x.set(what, least), ranges[what][2]);
            check.due(what + " told least", x.told(what), least);
            check.due(what + " greatest", x.set(what, greatest), least);
            check.due(what + " told greatest", x.told(what), greatest);
            for (int other = 0; other < 5; other++) {
                if (other != what) check.due(other + " not touched", x.told(other), ranges[other][2]);
            }
        }
    }

    private static void setReturns() {
        check.sentence("Promise 16", "Returns the value before");
        CutConformer x = new CutConformer();
        check.due("the first one", x.set(0, 20), 2);
        check.due("the same once more", x.set(0, 20), 20);
        check.due("another", x.set(0, 1), 20);
        x.undo();
        check.due("after undo", x.set(0, 7), 20);
        check.due("a gap of 0", x.set(2, 0), 2);
        check.due("the gap before was 0", x.set(2, 9), 0);
    }

    private static void setBad() {
        check.sentence("Promise 16", "BAD if an argument is out of range.");
        CutConformer x = new CutConformer();
        for (int what : new int[] {-1, 5, 6, 11, LEAST, GREATEST}) check.due("what " + what, x.set(what, 10), BAD);
        for (int v : new int[] {-1, 201, LEAST, GREATEST}) {
            for (int what = 0; what < 5; what++) check.due(what + " to " + v, x.set(what, v), BAD);
        }
        check.due("no change", x.told(11), 0);
    }

    /** With all steps something happens here, and each of them changes what comes of those behind it. */
    private static CutConformer film() {
        CutConformer x = new CutConformer();
        x.piece(100, 100);
        x.piece(500, 100);
        x.piece(150, 40);
        for (int frame : new int[] {21, 50, 74, 99, 203}) x.shot(frame, true);
        Check.add(x, 120, 140, 0, "who is there");
        Check.add(x, 125, 138, 1, "me");
        Check.add(x, 150, 160, 2, "and me");
        Check.add(x, 195, 510, 3, "over the cut, and so a line too long");
        Check.add(x, 700, 710, 3, "lost");
        return x;
    }

    private static void conformInOrder() {
        check.sentence("Promise 17", "Carries out some of the steps, in their order.");
        for (int steps = 1; steps <= 31; steps++) {
            CutConformer together = film();
            CutConformer apart = film();
            together.conform(steps);
            for (int step = 1; step <= 16; step *= 2) {
                if ((steps & step) != 0) apart.conform(step);
            }
            check.times("together as one by one, " + steps, together, Check.times(apart));
        }
        CutConformer all = film();
        check.due("all", all.conform(31), 4);
        check.times("all", all, "21-48 50-74 99-167 203-224");
    }

    private static void conformSteps() {
        check.sentence("Promise 17", "as a sum, 1 to 31");
        CutConformer x = new CutConformer();
        check.due("1", x.conform(1), 0);
        check.due("31", x.conform(31), 0);
        check.due("0", x.conform(0), BAD);
        check.due("32", x.conform(32), BAD);
        check.due("33", x.conform(33), BAD);
    }

    private static void conformReturns() {
        check.sentence("Promise 17", "Returns the number of subtitles then");
        check.due("steps that take none away", film().conform(28), 5);
        check.due("mapping: one less, one more", film().conform(1), 5);
        check.due("merging", film().conform(2), 4);
        check.due("mapping and merging", film().conform(3), 4);
        CutConformer none = new CutConformer();
        for (int steps = 1; steps <= 31; steps++) check.due("without subtitles, " + steps, none.conform(steps), 0);
    }

    private static void conformBad() {
        check.sentence("Promise 17", "BAD if steps is out of range");
        CutConformer x = film();
        for (int steps : new int[] {0, -1, -31, 32, 64, LEAST, GREATEST, LEAST + 1}) check.due("" + steps, x.conform(steps), BAD);
        check.times("nothing is carried out", x, "120-140 125-138 150-160 195-510 700-710");
        CutConformer full = crowd(17);
        check.due("wrong, though it would be FULL", full.conform(33), BAD);
    }

    /** Mapping gives so many subtitles: for each ten a subtitle in ten pieces, for the others one in one piece. */
    private static CutConformer crowd(int mapped) {
        CutConformer x = new CutConformer();
        for (int p = 0; p < 9; p++) x.piece(0, 100);
        x.piece(0, 200);
        x.type('a');
        for (int k = 0; k < mapped / 10; k++) x.add(10, 20, k % 4);
        for (int k = 0; k < mapped % 10; k++) x.add(110 + 10 * k, 115 + 10 * k, k % 4);
        return x;
    }

    private static void conformFull() {
        check.sentence("Promise 17", "FULL if mapping would give more than 16 subtitles.");
        check.due("15", crowd(15).conform(1), 15);
        check.due("16", crowd(16).conform(1), 16);
        check.due("17", crowd(17).conform(1), FULL);
        check.due("30", crowd(30).conform(1), FULL);
        check.due("20, which merging would make 10", crowd(20).conform(3), FULL);
        check.due("20, all steps", crowd(20).conform(31), FULL);
        check.due("20 without mapping", crowd(20).conform(30), 1);
        CutConformer x = new CutConformer();
        for (int p = 0; p < 10; p++) x.piece(0, 100);
        x.type('a');
        for (int i = 0; i < 16; i++) x.add(10, 20, i % 4);
        check.due("160", x.conform(1), FULL);
        check.due("subtitles", x.told(8), 16);
        x.conform(2);
        check.due("80", x.conform(1), FULL);
        for (int p = 0; p < 8; p++) x.dropPiece(0);
        check.due("8 in 2 pieces", x.conform(1), 16);
        x.dropPiece(0);
        x.dropPiece(0);
        check.due("none", x.conform(1), 0);
    }

    private static void ifConformNothingChanges() {
        check.sentence("Promise 18", "Nothing changes.");
        CutConformer x = film();
        long before = x.digest();
        for (int steps = 1; steps <= 31; steps++) x.ifConform(steps, steps % 5);
        check.due("digest", x.digest(), before);
        check.due("remembered states", x.told(11), 8);
        CutConformer full = crowd(20);
        before = full.digest();
        full.ifConform(31, 0);
        check.due("digest, if it is FULL", full.digest(), before);
    }

    private static void ifConformNumber() {
        check.sentence("Promise 18", "0 for the number of subtitles");
        for (int steps = 1; steps <= 31; steps++) {
            CutConformer x = film();
            check.due("" + steps, x.ifConform(steps, 0), x.conform(steps));
        }
        check.due("without subtitles", new CutConformer().ifConform(31, 0), 0);
        check.due("16", crowd(16).ifConform(1, 0), 16);
    }

    private static void ifConformLengths() {
        check.sentence("Promise 18", "1 for the sum of their lengths");
        for (int steps = 1; steps <= 31; steps++) {
            CutConformer x = film();
            int told = x.ifConform(steps, 1);
            x.conform(steps);
            int sum = 0;
            for (int i = 0; i < x.told(8); i++) sum += x.subtitle(i, 1) - x.subtitle(i, 0);
            check.due("" + steps, told, sum);
        }
        check.due("without subtitles", new CutConformer().ifConform(31, 1), 0);
        CutConformer x = new CutConformer();
        x.type('a');
        for (int i = 0; i < 16; i++) x.add(0, 9999, 0);
        check.due("the greatest sum", x.ifConform(30, 1), 16 * 9999);
    }

    private static void ifConformFaulty() {
        check.sentence("Promise 18", "2 for how many of them have faults");
        for (int steps = 1; steps <= 31; steps++) {
            CutConformer x = film();
            int told = x.ifConform(steps, 2);
            x.conform(steps);
            check.due("" + steps, told, x.faults(0));
        }
        check.due("without subtitles", new CutConformer().ifConform(31, 2), 0);
        check.due("all of 16", crowd(16).ifConform(1, 2), 16);
        CutConformer x = new CutConformer();
        x.piece(0, 100);
        x.type('a');
        x.add(10, 20, 0);
        check.due("none any more", x.ifConform(4, 2), 0);
        check.due("but one before", x.faults(0), 1);
    }

    private static void ifConformGreatestEnd() {
        check.sentence("Promise 18", "3 for the greatest end (0 without subtitles)");
        for (int steps = 1; steps <= 31; steps++) {
            CutConformer x = film();
            int told = x.ifConform(steps, 3);
            x.conform(steps);
            int greatest = 0;
            for (int i = 0; i < x.told(8); i++) greatest = Math.max(greatest, x.subtitle(i, 1));
            check.due("" + steps, told, greatest);
        }
        CutConformer x = new CutConformer();
        check.due("without subtitles", x.ifConform(31, 3), 0);
        x.type('a');
        x.add(0, 9999, 0);
        x.add(5, 6, 0);
        check.due("not that of the last one", x.ifConform(2, 3), 9999);
        check.due("if all are lost", x.ifConform(1, 3), 0);
    }

    private static void ifConformLost() {
        check.sentence("Promise 18", "4 for how many subtitles would be lost in mapping (0 without this step)");
        CutConformer x = film();
        for (int steps = 1; steps <= 31; steps++) check.due("" + steps, x.ifConform(steps, 4), steps % 2);
        for (int p = 0; p < 3; p++) x.dropPiece(0);
        check.due("all are lost", x.ifConform(1, 4), 5);
        check.due("all, without mapping", x.ifConform(30, 4), 0);
        check.due("without subtitles", new CutConformer().ifConform(31, 4), 0);
        check.due("16, none is lost", crowd(16).ifConform(1, 4), 0);
    }

    private static void ifConformBad() {
        check.sentence("Promise 18", "BAD if an argument is out of range");
        CutConformer x = film();
        for (int steps : new int[] {0, -1, 32, LEAST, GREATEST}) check.due("steps " + steps, x.ifConform(steps, 0), BAD);
        for (int what : new int[] {-1, 5, LEAST, GREATEST}) check.due("what " + what, x.ifConform(31, what), BAD);
        check.due("a wrong what, though it would be FULL", crowd(17).ifConform(1, 5), BAD);
        check.due("wrong steps, though they would be FULL", crowd(17).ifConform(33, 0), BAD);
    }

    private static void ifConformFull() {
        check.sentence("Promise 18", "FULL if mapping would give more than 16 subtitles.");
        for (int what = 0; what <= 4; what++) {
            check.due("17, " + what, crowd(17).ifConform(1, what), FULL);
            check.due("20, all steps, " + what, crowd(20).ifConform(31, what), FULL);
        }
        check.due("16", crowd(16).ifConform(1, 0), 16);
        check.due("20 without mapping", crowd(20).ifConform(30, 0), 1);
        CutConformer x = crowd(17);
        x.ifConform(1, 4);
        x.drop(2);
        check.due("FULL leaves nothing behind", x.ifConform(1, 4), 0);
    }

    private static void stretchesOfMapping() {
        check.sentence("Promise 19", "Counts the stretches of a subtitle that mapping would make of it.");
        CutConformer x = film();
        int[] want = {1, 1, 2, 1, 0};
        for (int i = 0; i < 5; i++) check.due("" + i, x.stretches(i), want[i]);
        check.due("ten", crowd(20).stretches(1), 10);
        CutConformer none = new CutConformer();
        none.type('a');
        none.add(0, 9999, 0);
        check.due("without pieces", none.stretches(0), 0);
        none.piece(0, 3);
        check.due("3 frames", none.stretches(0), 0);
        none.piece(3, 4);
        check.due("and 4", none.stretches(0), 1);
        none.piece(7, 4);
        check.due("and 4 behind them", none.stretches(0), 1);
        check.due("no change", none.told(11), 4);
    }

    private static void stretchesBad() {
        check.sentence("Promise 19", "BAD if there is no such subtitle.");
        check.due("of none", new CutConformer().stretches(0), BAD);
        CutConformer x = film();
        for (int i : new int[] {-1, 5, 16, LEAST, GREATEST}) check.due("" + i, x.stretches(i), BAD);
    }

    private static void shownMask() {
        check.sentence("Promise 20", "Returns the set of these subtitles, as a bit mask");
        CutConformer x = new CutConformer();
        check.due("none", x.shown(0), 0);
        x.type('a');
        x.add(0, 9999, 0);
        x.add(10, 20, 0);
        int[][] want = {{0, 1}, {9, 1}, {10, 3}, {19, 3}, {20, 1}, {9998, 1}, {9999, 0}};
        for (int[] w : want) check.due("frame " + w[0], x.shown(w[0]), w[1]);
        for (int i = 2; i < 16; i++) x.add(30, 31, 0);
        check.due("16", x.shown(30), 65533);
        check.due("one frame on", x.shown(31), 1);
        x.drop(0);
        check.due("the 16th is away", x.shown(30), 32766);
    }

    private static void shownBad() {
        check.sentence("Promise 20", "BAD if frame is out of range.");
        CutConformer x = film();
        for (int frame : new int[] {-1, 10000, LEAST, GREATEST}) check.due("" + frame, x.shown(frame), BAD);
        check.due("0", x.shown(0), 0);
        check.due("9999", x.shown(9999), 0);
    }

    private static void faultsOfOneKind() {
        check.sentence("Promise 21", "Counts the subtitles that have a fault.");
        CutConformer x = new CutConformer();
        for (int fault : new int[] {0, 1, 2, 4, 8, 16, 32}) check.due("without subtitles, " + fault, x.faults(fault), 0);
        Check.add(x, 100, 103, 0, "seventeenletterss");
        Check.add(x, 100, 200, 1, "b");
        Check.add(x, 104, 200, 2, "c");
        x.shot(99, true);
        int[] faults = {1, 2, 4, 8, 16, 32};
        int[] want = {1, 2, 2, 3, 1, 3};
        for (int k = 0; k < 6; k++) check.due("fault " + faults[k], x.faults(faults[k]), want[k]);
        CutConformer all = crowd(0);
        all.type('a');
        for (int i = 0; i < 16; i++) all.add(10, 20, 0);
        check.due("16 with the same first frame", all.faults(4), 16);
    }

    private static void faultsOfAny() {
        check.sentence("Promise 21", "or 0 for any fault");
        CutConformer x = new CutConformer();
        x.piece(0, 300);
        x.type('a');
        x.add(10, 34, 0);
        check.due("none", x.faults(0), 0);
        x.add(50, 73, 0);
        check.due("too short", x.faults(0), 1);
        x.add(280, 310, 0);
        check.due("behind the cut", x.faults(0), 2);
        x.move(2, 280, 301);
        check.due("two faults are one subtitle", x.faults(0), 2);
        x.set(4, 8);
        Check.add(x, 100, 200, 0, "nineletts");
        check.due("too wide", x.faults(0), 3);
    }

    private static void faultsBad() {
        check.sentence("Promise 21", "BAD if fault is none of these.");
        CutConformer x = film();
        for (int fault : new int[] {-1, 3, 5, 6, 7, 9, 12, 15, 17, 31, 33, 48, 63, 64, 128, -32, LEAST, GREATEST}) {
            check.due("" + fault, x.faults(fault), BAD);
        }
        check.due("1 is one", x.faults(1), 4);
        check.due("32 is one", x.faults(32), 2);
    }
}

/** RETURN VALUES, CUTS, SUBTITLES and CHANGES of the description: a method for each sentence that names a boundary case. */
public final class DescriptionEdgesTest {
    private static final int BAD = -1, STATE = -2, FULL = -3, NONE = -9;
    private static final Check check = new Check();

    public static void main(String[] args) {
        mostCalls();
        errorCodes();
        firstErrorInTheOrder();
        refusedCallsChangeNothing();
        wrongTextsChangeNothing();
        noneOnlyWithoutError();
        oldCut();
        piecesInTheirOrder();
        framesOfPieces();
        onePieceAfterTheOther();
        lengthOfNewCut();
        commonFrames();
        shotChanges();
        mostSubtitles();
        endOfSubtitle();
        lengthOfSubtitle();
        speakers();
        texts();
        numbersOfSubtitles();
        laterOnesStandBehind();
        movedOnesStandBehind();
        changesAreRecorded();
        changesWithoutEffectAreRecorded();
        othersAreNotRecorded();
        refusedChangesAreNotRecorded();
        mostStates();
        undoRestoresTheLatest();
        check.end("DescriptionEdgesTest");
    }

    private static void mostCalls() {
        check.sentence("What it is", "An object is used for at most 512 calls after it has been made");
        CutConformer x = new CutConformer();
        for (int k = 1; k < 505; k++) x.set(1, k % 200 + 1);
        for (int k = 505; k <= 511; k++) check.due("undo, call " + k, x.undo(), 512 - k);
        check.due("call 512", x.told(1), 497 % 200 + 1);
        CutConformer y = new CutConformer();
        y.type('a');
        for (int k = 2; k <= 511; k++) y.add(k, k + 5, k % 4);
        check.due("call 512 after many that were FULL", y.told(8), 16);
    }

    private static void errorCodes() {
        check.sentence("RETURN VALUES", "Error codes: BAD (-1): an argument is out of range, or there is no such thing; STATE (-2): the "
            + "call is not possible at present, as the method says; FULL (-3): a limit is reached.");
        check.due("BAD", CutConformer.BAD, -1);
        check.due("STATE", CutConformer.STATE, -2);
        check.due("FULL", CutConformer.FULL, -3);
        check.due("NONE", CutConformer.NONE, -9);
        CutConformer x = Make.most(Make.FORTY);
        check.due("out of range", x.shown(10000), -1);
        check.due("no such thing", x.pieceAt(10, 0), -1);
        check.due("not possible at present", new CutConformer().undo(), -2);
        check.due("a limit is reached", x.piece(0, 1), -3);
        check.due("no such value", x.shotAt(20), -9);
    }

    private static void firstErrorInTheOrder() {
        check.sentence("RETURN VALUES", "If several of them apply to a call, the first one in this order is returned.");
        CutConformer x = Make.most(Make.FORTY);
        check.due("piece", x.piece(0, 0), BAD);
        check.due("piece out of the old cut", x.piece(9999, 2), BAD);
        check.due("shot", x.shot(9999, true), BAD);
        check.due("type", x.type(127), BAD);
        check.due("add", x.add(5, 5, 0), BAD);
        check.due("add of a wrong speaker", x.add(5, 6, 4), BAD);
        check.due("conform", x.conform(33), BAD);
        check.due("ifConform, steps", x.ifConform(33, 0), BAD);
        check.due("ifConform, what", x.ifConform(1, 5), BAD);
    }

    private static int refused(CutConformer x, int k) {
        switch (k) {
            case 0: return x.piece(0, 1);
            case 1: return x.piece(-1, 1);
            case 2: return x.dropPiece(10);
            case 3: return x.pieceAt(0, 3);
            case 4: return x.shot(5, true);
            case 5: return x.shot(9999, false);
            case 6: return x.shotAt(-1);
            case 7: return x.toNew(10000, 0);
            case 8: return x.toOld(-1);
            case 9: return x.type('a');
            case 10: return x.type(31);
            case 11: return x.add(1, 2, 0);
            case 12: return x.add(2, 2, 0);
            case 13: return x.drop(16);
            case 14: return x.move(16, 1, 2);
            case 15: return x.move(0, 2, 2);
            case 16: return x.move(0, 2, 10000);
            case 17: return x.subtitle(0, 7);
            case 18: return x.part(0, 0, 4);
            case 19: return x.set(4, 41);
            case 20: return x.set(5, 8);
            case 21: return x.conform(1);
            case 22: return x.conform(31);
            case 23: return x.conform(0);
            case 24: return x.ifConform(31, 0);
            case 25: return x.ifConform(32, 0);
            case 26: return x.stretches(16);
            case 27: return x.shown(10000);
            case 28: return x.faults(3);
            default: return x.told(12);
        }
    }

    private static void refusedCallsChangeNothing() {
        check.sentence("RETURN VALUES", "A call that returns an error code, or -10 or less, changes nothing.");
        for (int k = 0; k < 30; k++) {
            CutConformer x = Make.most(Make.FORTY);
            int answer = refused(x, k);
            check.holds("call " + k + " is refused", answer == BAD || answer == FULL);
            alike("call " + k, x, Make.most(Make.FORTY));
        }
        CutConformer x = new CutConformer();
        check.due("undo of nothing", x.undo(), STATE);
        alike("undo", x, new CutConformer());
    }

    /** Also what undo() brings back, and the bytes of the text buffer, are the same. */
    private static void alike(String when, CutConformer x, CutConformer y) {
        check.due(when + ": digest", x.digest(), y.digest());
        for (int k = 0; k <= 8; k++) {
            check.due(when + ": undo " + k, x.undo(), y.undo());
            check.due(when + ": digest of undo " + k, x.digest(), y.digest());
        }
        check.due(when + ": text", x.add(7, 8, 0), y.add(7, 8, 0));
        check.due(when + ": digest with the text", x.digest(), y.digest());
    }

    private static void wrongTextsChangeNothing() {
        check.sentence("RETURN VALUES", "or -10 or less, changes nothing.");
        for (String text : new String[] {"", " ", "a ", "a  b", "a b c d "}) {
            CutConformer x = new CutConformer();
            CutConformer y = new CutConformer();
            Check.add(x, 5, 6, 1, "as before");
            Check.add(y, 5, 6, 1, "as before");
            Check.write(x, text);
            Check.write(y, text);
            check.holds("'" + text + "' is refused", x.add(1, 2, 0) <= -10);
            alike("'" + text + "'", x, y);
        }
    }

    private static void noneOnlyWithoutError() {
        check.sentence("RETURN VALUES", "it means that there is no such value, and is returned only if no error code applies");
        CutConformer x = new CutConformer();
        check.due("shotAt of none", x.shotAt(-1), BAD);
        check.due("toNew without pieces, frame", x.toNew(10000, 0), BAD);
        check.due("toNew without pieces, k", x.toNew(0, -1), BAD);
        check.due("toOld without pieces", x.toOld(10000), BAD);
        check.due("part of no subtitle", x.part(0, 1, 0), BAD);
        x.type('a');
        x.add(1, 2, 0);
        check.due("a second part that there is not, wrong what", x.part(0, 1, 9), BAD);
        check.due("a third part", x.part(0, 2, 0), BAD);
        check.due("a second part that there is not", x.part(0, 1, 0), NONE);
        check.due("the next one of no subtitle", x.subtitle(1, 6), BAD);
        check.due("the next one that there is not", x.subtitle(0, 6), NONE);
    }

    private static void oldCut() {
        check.sentence("CUTS", "The old cut has the frames 0 to 9999.");
        CutConformer x = new CutConformer();
        check.due("the first half", x.piece(0, 5000), 0);
        check.due("the rest but one", x.piece(5000, 4999), 1);
        check.due("frame 0", x.toOld(0), 0);
        check.due("frame 9998", x.toNew(9998, 0), 9998);
        check.due("frame 9999 stands nowhere", x.toNew(9999, 0), NONE);
        x.dropPiece(0);
        check.due("frame 9999", x.piece(9999, 1), 1);
        check.due("it stands", x.toNew(9999, 0), 4999);
        check.due("frame 10000", x.piece(10000, 1), BAD);
        check.due("frame 10000 is none", x.toNew(10000, 0), BAD);
    }

    private static void piecesInTheirOrder() {
        check.sentence("CUTS", "The edit list has at most 10 pieces, numbered from 0 in their order (none at first)");
        CutConformer x = new CutConformer();
        check.due("none", x.told(5), 0);
        for (int p = 0; p < 10; p++) x.piece(900 - 100 * p, 10);
        for (int p = 0; p < 10; p++) check.due("piece " + p, x.pieceAt(p, 0), 900 - 100 * p);
        check.due("an 11th", x.piece(5, 10), FULL);
        check.due("10", x.told(5), 10);
    }

    private static void framesOfPieces() {
        check.sentence("CUTS", "a piece has a first frame in the old cut, and a length of 1 to 5000 frames, all of which are in the "
            + "old cut.");
        CutConformer x = new CutConformer();
        int[][] right = {{0, 1}, {0, 5000}, {9999, 1}, {5000, 4000}, {9990, 10}};
        for (int k = 0; k < right.length; k++) check.due("" + right[k][0], x.piece(right[k][0], right[k][1]), k);
        int[][] wrong = {{-1, 1}, {0, 0}, {0, 5001}, {10000, 1}, {9999, 2}, {5001, 5000}, {9990, 11}, {-1, 0}};
        for (int[] w : wrong) check.due(w[0] + ", " + w[1], x.piece(w[0], w[1]), BAD);
    }

    private static void onePieceAfterTheOther() {
        check.sentence("CUTS", "The new cut consists of the pieces one after the other, from frame 0 on");
        CutConformer x = new CutConformer();
        x.piece(700, 3);
        x.piece(100, 1);
        x.piece(9998, 2);
        int[] want = {700, 701, 702, 100, 9998, 9999, NONE};
        for (int frame = 0; frame < 7; frame++) check.due("" + frame, x.toOld(frame), want[frame]);
        for (int frame = 0; frame < 6; frame++) check.due("back " + frame, x.toNew(want[frame], 0), frame);
        int[] starts = {0, 3, 4};
        for (int p = 0; p < 3; p++) check.due("start " + p, x.pieceAt(p, 2), starts[p]);
    }

    private static void lengthOfNewCut() {
        check.sentence("CUTS", "its length, at most 9999, is the sum of their lengths.");
        CutConformer x = new CutConformer();
        check.due("without pieces", x.told(6), 0);
        x.piece(0, 1);
        check.due("one frame", x.told(6), 1);
        x.piece(0, 5000);
        x.piece(0, 4998);
        check.due("the longest", x.told(6), 9999);
        check.due("longer", x.piece(0, 1), FULL);
        check.due("the start of the last piece", x.pieceAt(2, 2), 5001);
    }

    private static void commonFrames() {
        check.sentence("CUTS", "Pieces may have frames in common, and a frame of the old cut may be in none of them.");
        CutConformer x = new CutConformer();
        check.due("a piece", x.piece(10, 10), 0);
        check.due("the same", x.piece(10, 10), 1);
        check.due("a part of it", x.piece(15, 1), 2);
        check.due("in all", x.toNew(15, 2), 20);
        check.due("in two", x.toNew(16, 2), NONE);
        check.due("in none, below", x.toNew(9, 0), NONE);
        check.due("in none, above", x.toNew(20, 0), NONE);
    }

    private static void shotChanges() {
        check.sentence("CUTS", "There are at most 20 shot changes, which are different frames from 1 to 9998 of the new cut (whether it "
            + "is so long or not).");
        CutConformer x = new CutConformer();
        check.due("without a cut", x.shot(9998, true), 1);
        x.piece(0, 10);
        check.due("behind the cut", x.shot(5000, true), 2);
        check.due("frame 1", x.shot(1, true), 3);
        x.dropPiece(0);
        check.due("they stay without the cut", x.told(7), 3);
        check.due("the same frame", x.shot(1, true), 3);
        for (int k = 4; k <= 20; k++) x.shot(k, true);
        check.due("20", x.told(7), 20);
        check.due("a 21st", x.shot(2, true), FULL);
        check.due("frame 0", x.shot(0, true), BAD);
        check.due("frame 9999", x.shot(9999, true), BAD);
    }

    private static void mostSubtitles() {
        check.sentence("SUBTITLES", "There are at most 16 subtitles (none at first).");
        CutConformer x = new CutConformer();
        check.due("none", x.told(8), 0);
        x.type('a');
        for (int i = 0; i < 16; i++) check.due("" + i, x.add(5, 6, 0), i);
        check.due("a 17th", x.add(5, 6, 0), FULL);
        check.due("16", x.told(8), 16);
    }

    private static void endOfSubtitle() {
        check.sentence("SUBTITLES", "A subtitle has a first frame, and an end, which is the frame behind its last one");
        CutConformer x = new CutConformer();
        x.type('a');
        x.add(10, 11, 0);
        int[][] want = {{9, 0}, {10, 1}, {11, 0}};
        for (int[] w : want) check.due("shown at " + w[0], x.shown(w[0]), w[1]);
        x.add(11, 13, 0);
        check.due("the next one begins there", x.shown(11), 2);
        check.due("its last frame", x.shown(12), 2);
        check.due("its end", x.shown(13), 0);
    }

    private static void lengthOfSubtitle() {
        check.sentence("SUBTITLES", "its length is the end minus the first frame.");
        CutConformer x = new CutConformer();
        x.type('a');
        check.due("no subtitle", x.ifConform(16, 1), 0);
        x.add(10, 11, 0);
        check.due("the least", x.ifConform(16, 1), 1);
        x.move(0, 0, 9999);
        check.due("the greatest", x.ifConform(16, 1), 9999);
        x.move(0, 100, 124);
        check.due("as long as its reading length", x.faults(1), 0);
    }

    private static void speakers() {
        check.sentence("SUBTITLES", "each part has a speaker, 0 to 3");
        for (int speaker = 0; speaker <= 3; speaker++) {
            CutConformer x = new CutConformer();
            x.type('a');
            x.add(5, 6, speaker);
            check.due("" + speaker, x.part(0, 0, 0), speaker);
            x.add(5, 6, 3 - speaker);
            x.conform(2);
            check.due("the second part with " + speaker, x.part(0, 1, 0), 3 - speaker);
        }
        CutConformer x = new CutConformer();
        x.type('a');
        check.due("-1", x.add(5, 6, -1), BAD);
        check.due("4", x.add(5, 6, 4), BAD);
    }

    private static void texts() {
        check.sentence("SUBTITLES", "a text of 1 to 40 bytes from 32 to 126, which consists of words with one blank (byte 32) between two "
            + "of them (so neither its first nor its last byte is a blank)");
        String[] right = {"a", "!", "~", "a b", "! ~", ". , :", "a".repeat(40), "a b c d e f g h i j k l m n o p q r s tu"};
        for (String text : right) {
            CutConformer x = new CutConformer();
            check.due("'" + text + "'", Check.add(x, 5, 6, 0, text), 0);
            check.holds("it is '" + text + "'", Check.text(x, 0, 0).equals(text));
        }
        String[] wrong = {"", " ", "  ", " a", "a ", "a  b", " ".repeat(40), "a".repeat(39) + " ", " " + "a".repeat(39)};
        for (String text : wrong) {
            check.holds("'" + text + "' is wrong", Check.add(new CutConformer(), 5, 6, 0, text) <= -10);
        }
    }

    private static void numbersOfSubtitles() {
        check.sentence("SUBTITLES", "Subtitles are numbered from 0 in the order of their first frames");
        CutConformer x = new CutConformer();
        x.type('a');
        for (int i = 0; i < 16; i++) x.add(i * 7 % 16, 9000 - i, 0);
        for (int i = 0; i < 16; i++) check.due("" + i, x.subtitle(i, 0), i);
        check.due("the ends do not count", x.subtitle(0, 1), 9000);
        check.due("a later one ends later", x.subtitle(1, 1), 8993);
    }

    private static void laterOnesStandBehind() {
        check.sentence("SUBTITLES", "of those with the same first frame, one that came or was moved there later stands behind the others.");
        CutConformer x = new CutConformer();
        x.type('a');
        x.add(9, 99, 3);
        x.add(20, 21, 3);
        for (int end = 15; end > 10; end--) check.due("" + end, x.add(10, end, 0), 16 - end);
        check.times("in the order in which they came", x, "9-99 10-15 10-14 10-13 10-12 10-11 20-21");
    }

    private static void movedOnesStandBehind() {
        check.sentence("SUBTITLES", "or was moved there later stands behind the others.");
        CutConformer x = new CutConformer();
        x.type('a');
        int[] firsts = {5, 10, 10, 15};
        for (int i = 0; i < 4; i++) x.add(firsts[i], 30 + i, 0);
        check.due("from before", x.move(0, 10, 30), 2);
        check.times("from before", x, "10-31 10-32 10-30 15-33");
        check.due("from behind", x.move(3, 10, 33), 3);
        check.times("from behind", x, "10-31 10-32 10-30 10-33");
        check.due("to where it was", x.move(0, 10, 31), 3);
        check.times("to where it was", x, "10-32 10-30 10-33 10-31");
        check.due("the last one to where it was", x.move(3, 10, 40), 3);
        check.times("the last one to where it was", x, "10-32 10-30 10-33 10-40");
        x.undo();
        x.undo();
        check.times("undone", x, "10-31 10-32 10-30 10-33");
    }

    /** What there is before each change. */
    private static CutConformer some() {
        CutConformer x = new CutConformer();
        x.piece(0, 50);
        x.shot(30, true);
        x.type('a');
        x.add(10, 20, 0);
        return x;
    }

    private static int change(CutConformer x, int k) {
        switch (k) {
            case 0: return x.piece(0, 5);
            case 1: return x.dropPiece(0);
            case 2: return x.shot(7, true);
            case 3: return x.shot(30, false);
            case 4: return x.add(1, 2, 0);
            case 5: return x.drop(0);
            case 6: return x.move(0, 5, 6);
            case 7: return x.set(1, 5);
            default: return x.conform(4);
        }
    }

    private static void changesAreRecorded() {
        check.sentence("CHANGES", "All methods that are marked as changes record the state (pieces, shot changes, subtitles, settings) "
            + "before it");
        long before = some().digest();
        for (int k = 0; k < 9; k++) {
            CutConformer x = some();
            check.holds("change " + k, change(x, k) >= 0);
            check.due("states after change " + k, x.told(11), 4);
            check.holds("something is changed by " + k, x.digest() != before);
            check.due("undo of change " + k, x.undo(), 3);
            check.due("as before change " + k, x.digest(), before);
        }
    }

    private static int noEffect(CutConformer x, int k) {
        switch (k) {
            case 0: return x.shot(30, true);
            case 1: return x.shot(31, false);
            case 2: return x.move(0, 10, 20);
            case 3: return x.set(0, 2);
            case 4: return x.conform(1);
            case 5: return x.conform(2);
            case 6: return x.conform(8);
            default: return x.conform(16);
        }
    }

    private static void changesWithoutEffectAreRecorded() {
        check.sentence("CHANGES", "also if everything is as before.");
        for (int k = 0; k < 8; k++) {
            CutConformer x = some();
            check.holds("change " + k, noEffect(x, k) >= 0);
            check.due("states after change " + k, x.told(11), 4);
            check.due("undo of change " + k, x.undo(), 3);
            check.due("as before change " + k, x.digest(), some().digest());
        }
    }

    private static void othersAreNotRecorded() {
        check.sentence("CHANGES", "All methods that are marked as changes record the state");
        CutConformer x = some();
        x.type('b');
        x.clear();
        x.pieceAt(0, 0);
        x.shotAt(0);
        x.toNew(0, 0);
        x.toOld(0);
        x.subtitle(0, 5);
        x.part(0, 0, 3);
        x.ifConform(31, 0);
        x.stretches(0);
        x.shown(10);
        x.faults(0);
        x.told(0);
        x.digest();
        check.due("states", x.told(11), 3);
        check.due("undo", x.undo(), 2);
        check.due("undo is no change", x.told(11), 2);
        check.due("the subtitle is away", x.told(8), 0);
    }

    private static void refusedChangesAreNotRecorded() {
        check.sentence("CHANGES", "if they return no error code and no number of -10 or less");
        CutConformer x = some();
        x.piece(0, 0);
        x.piece(9999, 2);
        x.dropPiece(1);
        x.shot(0, true);
        x.shot(0, false);
        x.add(2, 2, 0);
        x.type(32);
        x.add(1, 2, 0);
        x.clear();
        x.add(1, 2, 0);
        x.drop(1);
        x.move(1, 1, 2);
        x.move(0, 2, 2);
        x.set(4, 7);
        x.conform(0);
        check.due("states", x.told(11), 3);
        CutConformer full = new CutConformer();
        for (int p = 0; p < 10; p++) full.piece(0, 100);
        full.type('a');
        full.add(10, 20, 0);
        full.add(10, 20, 0);
        for (int k = 0; k < 5; k++) full.undo();
        check.due("3 are left", full.told(11), 3);
        full.piece(0, 5000);
        full.piece(0, 5000);
        check.due("one of two was FULL", full.told(11), 4);
    }

    private static void mostStates() {
        check.sentence("CHANGES", "At most 8 recorded states are remembered: when one more is recorded, the oldest one is dropped");
        for (int changes = 0; changes <= 20; changes++) {
            CutConformer x = new CutConformer();
            for (int v = 1; v <= changes; v++) x.set(1, 100 + v);
            int states = Math.min(changes, 8);
            check.due("states after " + changes, x.told(11), states);
            for (int k = 1; k <= states; k++) {
                check.due("undo", x.undo(), states - k);
                check.due("value", x.told(1), changes == k ? 24 : 100 + changes - k);
            }
            check.due("undo after all", x.undo(), STATE);
            check.due("value after all", x.told(1), changes <= 8 ? 24 : 100 + changes - 8);
        }
    }

    private static void undoRestoresTheLatest() {
        check.sentence("CHANGES", "undo() restores the latest one and removes it.");
        CutConformer x = new CutConformer();
        for (int v = 1; v <= 10; v++) x.set(1, v);
        for (int k = 0; k < 5; k++) x.undo();
        check.due("after 5", x.told(1), 5);
        for (int v = 11; v <= 15; v++) x.set(1, v);
        check.due("states", x.told(11), 8);
        int[] want = {14, 13, 12, 11, 5, 4, 3, 2};
        for (int k = 0; k < 8; k++) {
            check.due("undo " + k, x.undo(), 7 - k);
            check.due("value " + k, x.told(1), want[k]);
        }
        check.due("no more", x.undo(), STATE);
        check.due("a change after that", x.set(1, 99), 2);
        check.due("it can be undone", x.undo(), 0);
        check.due("value", x.told(1), 2);
    }
}

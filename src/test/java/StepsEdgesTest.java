/** STEPS of the description: a method for each sentence that names a boundary case. */
public final class StepsEdgesTest {
    private static final Check check = new Check();

    public static void main(String[] args) {
        mappingByNumbers();
        mappingFourFrames();
        mappingFrames();
        mappingOneStretch();
        mappingOneAfterTheOther();
        mappingSameParts();
        mappingLost();
        mergingOneBehind();
        mergingOnePartEach();
        mergingSpeakers();
        mergingCommonFrames();
        mergingTwice();
        mergingParts();
        mergingTimes();
        mergingNotOnceMore();
        readingLess();
        readingLengthOfCut();
        readingNext();
        readingNeverEarlier();
        snappingReach();
        snappingNearest();
        snappingLessThanEnd();
        snappingEnd();
        snappingNumbersAnew();
        gapsLess();
        gapsNotBefore();
        gapsNext();
        check.end("StepsEdgesTest");
    }

    /** What mapping makes of one subtitle. */
    private static void mapped(String want, CutConformer x, int first, int end) {
        x.add(first, end, 0);
        x.conform(1);
        check.times(first + " to " + end, x, want);
        x.undo();
        x.drop(0);
    }

    private static void mappingByNumbers() {
        check.sentence("Step 1", "Each subtitle, by numbers, is replaced by its stretches: for each piece, in its order");
        CutConformer x = Make.cut(100, 50, 50, 50, 100, 50);
        x.add(60, 120, 0);
        x.add(100, 110, 1);
        x.add(100, 130, 2);
        check.due("mapped", x.conform(1), 6);
        check.times("mapped", x, "0-20 0-10 0-30 60-120 100-110 100-130");
    }

    private static void mappingFourFrames() {
        check.sentence("Step 1", "if there are at least 4 of them (in this piece alone)");
        CutConformer x = Make.cut(0, 100, 100, 100);
        mapped("", x, 97, 103);
        mapped("96-100", x, 96, 103);
        mapped("100-104", x, 97, 104);
        mapped("96-104", x, 96, 104);
        mapped("0-4", x, 0, 4);
        mapped("", x, 0, 3);
        mapped("196-200", x, 196, 9999);
        mapped("", x, 197, 9999);
        CutConformer small = Make.cut(10, 3, 20, 4, 30, 1, 31, 1, 32, 1, 33, 1);
        mapped("3-7", small, 0, 9999);
        mapped("", small, 21, 9999);
    }

    private static void mappingFrames() {
        check.sentence("Step 1", "are a stretch, at the frames of the new cut that the piece has for them");
        CutConformer x = Make.cut(9995, 5, 50, 100);
        mapped("0-4", x, 9990, 9999);
        mapped("5-105", x, 50, 150);
        mapped("5-105", x, 49, 151);
        mapped("6-104", x, 51, 149);
        mapped("5-9", x, 0, 54);
        mapped("101-105", x, 146, 200);
        mapped("0-4 5-105", x, 0, 9999);
        CutConformer longest = Make.cut(0, 5000, 4000, 4999);
        mapped("0-9999", longest, 0, 9999);
        mapped("9000-9999", longest, 8000, 9999);
    }

    private static void mappingOneStretch() {
        check.sentence("Step 1", "If a stretch begins in the new cut where the stretch of the same subtitle before it ends, both are "
            + "one stretch.");
        mapped("0-30", Make.cut(0, 10, 10, 10, 20, 10), 0, 30);
        mapped("5-15", Make.cut(0, 10, 500, 10), 5, 505);
        mapped("5-20", Make.cut(0, 10, 6, 20), 5, 16);
        mapped("5-10 14-25", Make.cut(0, 10, 1, 20), 5, 16);
        mapped("0-100", Make.cut(7, 10, 7, 10, 7, 10, 7, 10, 7, 10, 7, 10, 7, 10, 7, 10, 7, 10, 7, 10), 7, 17);
        mapped("0-10 13-23", Make.cut(0, 10, 10, 3, 13, 10), 0, 23);
        mapped("0-10 13-23", Make.cut(0, 10, 0, 3, 0, 10), 0, 23);
        mapped("0-14", Make.cut(0, 10, 10, 4), 0, 23);
        mapped("0-20 21-31", Make.cut(20, 10, 10, 10, 90, 1, 20, 10), 10, 30);
        CutConformer x = Make.cut(0, 10, 10, 10);
        x.add(0, 10, 0);
        x.add(10, 20, 0);
        x.conform(1);
        check.times("not of two subtitles", x, "0-10 10-20");
    }

    private static void mappingOneAfterTheOther() {
        check.sentence("Step 1", "the new subtitles come one after the other.");
        CutConformer x = Make.cut(50, 50);
        x.add(60, 70, 3);
        x.add(0, 60, 1);
        x.add(40, 70, 2);
        x.add(50, 55, 0);
        x.conform(1);
        check.times("with the same first frame by their old numbers", x, "0-10 0-20 0-5 10-20");
        int[] speakers = {1, 2, 0, 3};
        for (int i = 0; i < 4; i++) check.due("speaker of " + i, x.part(i, 0, 0), speakers[i]);
        CutConformer back = Make.cut(80, 10, 60, 10, 40, 10, 20, 10, 0, 10);
        for (int i = 0; i < 5; i++) back.add(20 * i, 20 * i + 10 - i, i % 4);
        back.conform(1);
        check.times("each ahead of all before it", back, "0-6 10-17 20-28 30-39 40-50");
        int[] others = {0, 3, 2, 1, 0};
        for (int i = 0; i < 5; i++) check.due("speaker of " + i + " then", back.part(i, 0, 0), others[i]);
    }

    private static void mappingSameParts() {
        check.sentence("Step 1", "Each stretch becomes a subtitle with the same parts");
        CutConformer x = Make.cut(0, 50, 0, 50);
        Check.add(x, 10, 20, 1, "one");
        Check.add(x, 10, 20, 2, "another");
        x.conform(2);
        x.conform(1);
        check.times("twice", x, "10-20 60-70");
        for (int i = 0; i < 2; i++) {
            check.due("parts of " + i, x.subtitle(i, 2), 2);
            check.holds("first text of " + i, Check.text(x, i, 0).equals("one"));
            check.holds("second text of " + i, Check.text(x, i, 1).equals("another"));
            check.due("second speaker of " + i, x.part(i, 1, 0), 2);
        }
    }

    private static void mappingLost() {
        check.sentence("Step 1", "(So a subtitle without a stretch is lost.)");
        CutConformer x = Make.cut(100, 10, 200, 3);
        x.add(0, 103, 0);
        x.add(50, 104, 1);
        x.add(107, 200, 2);
        x.add(190, 300, 3);
        check.due("lost", x.ifConform(1, 4), 3);
        check.due("left", x.conform(1), 1);
        check.due("the one with 4 frames", x.part(0, 0, 0), 1);
        CutConformer none = Make.cut();
        none.add(0, 9999, 0);
        check.due("without pieces all are lost", none.ifConform(31, 4), 1);
        check.due("none is left", none.conform(31), 0);
        check.due("mapping of none", none.conform(1), 0);
    }

    private static void merged(String want, int... subtitles) {
        CutConformer x = Make.spoken(subtitles);
        x.conform(2);
        check.times(subtitles.length / 3 + " subtitles, merged", x, want);
    }

    private static void mergingOneBehind() {
        check.sentence("Step 2", "if a subtitle and the one behind it");
        merged("");
        merged("0-10", 0, 10, 0);
        merged("0-20 1-3 3-20", 0, 20, 0, 1, 3, 0, 3, 20, 1);
        merged("0-20 1-20", 0, 20, 0, 1, 20, 0, 2, 20, 1);
        merged("0-10 20-31", 0, 10, 0, 20, 30, 1, 21, 31, 2);
        CutConformer x = new CutConformer();
        x.type('a');
        for (int i = 0; i < 16; i++) x.add(10 * (i / 2), 10 * (i / 2) + 10, i % 4);
        check.due("16 become 8", x.conform(2), 8);
        check.due("all with two parts", x.told(9), 8);
    }

    private static void mergingOnePartEach() {
        check.sentence("Step 2", "have one part each");
        CutConformer x = Make.spoken(0, 10, 0, 0, 10, 1);
        x.conform(2);
        x.add(0, 10, 2);
        check.due("two parts ahead of one", x.conform(2), 2);
        x.add(0, 10, 3);
        check.due("the two with one part", x.conform(2), 2);
        check.due("two parts ahead of two", x.conform(2), 2);
        CutConformer y = Make.spoken(5, 15, 0, 5, 15, 1);
        y.conform(2);
        y.add(0, 10, 2);
        check.due("one part ahead of two", y.conform(2), 2);
        check.due("the second one has two", y.subtitle(1, 2), 2);
    }

    private static void mergingSpeakers() {
        check.sentence("Step 2", "with different speakers");
        for (int one = 0; one <= 3; one++) {
            for (int two = 0; two <= 3; two++) {
                check.due(one + " and " + two, Make.spoken(0, 10, one, 0, 10, two).conform(2), one == two ? 2 : 1);
            }
        }
    }

    private static void mergingCommonFrames() {
        check.sentence("Step 2", "and have common frames");
        merged("0-1 1-2", 0, 1, 0, 1, 2, 1);
        merged("0-10 10-20", 0, 10, 0, 10, 20, 1);
        merged("0-1 9-10", 0, 1, 0, 9, 10, 1);
        merged("0-1", 0, 1, 0, 0, 1, 1);
        merged("0-2", 0, 2, 0, 1, 2, 1);
    }

    private static void mergingTwice() {
        check.sentence("Step 2", "twice as many as which are at least the length of the shorter one of both");
        merged("0-15", 0, 10, 0, 5, 15, 1);
        merged("0-10 6-16", 0, 10, 0, 6, 16, 1);
        merged("0-105", 0, 100, 0, 95, 105, 1);
        merged("0-100 96-106", 0, 100, 0, 96, 106, 1);
        merged("0-105", 0, 10, 0, 5, 105, 1);
        merged("0-10 6-106", 0, 10, 0, 6, 106, 1);
        merged("0-11 6-17", 0, 11, 0, 6, 17, 1);
        merged("0-16", 0, 11, 0, 5, 16, 1);
        merged("0-3", 0, 2, 0, 1, 3, 1);
        merged("0-3 2-5", 0, 3, 0, 2, 5, 1);
        merged("0-4", 0, 3, 0, 1, 4, 1);
        merged("0-9999", 0, 9999, 0, 9998, 9999, 1);
        merged("0-9999", 0, 1, 0, 0, 9999, 1);
    }

    private static void mergingParts() {
        check.sentence("Step 2", "with the part of the first one as its first part and that of the other one as its second part");
        CutConformer x = new CutConformer();
        Check.add(x, 10, 20, 3, "the first one");
        Check.add(x, 10, 20, 0, "other");
        x.conform(2);
        check.due("first speaker", x.part(0, 0, 0), 3);
        check.due("second speaker", x.part(0, 1, 0), 0);
        check.holds("first text", Check.text(x, 0, 0).equals("the first one"));
        check.holds("second text", Check.text(x, 0, 1).equals("other"));
    }

    private static void mergingTimes() {
        check.sentence("Step 2", "the first frame of the first one, and the greater one of both ends");
        merged("3-20", 3, 20, 0, 5, 19, 1);
        merged("3-20", 3, 19, 0, 5, 20, 1);
        merged("3-20", 3, 20, 0, 5, 20, 1);
        merged("3-20", 3, 20, 0, 3, 20, 1);
    }

    private static void mergingNotOnceMore() {
        check.sentence("Step 2", "(It is not merged once more, so the next one that is looked at is the one behind it.)");
        merged("0-10 0-10", 0, 10, 0, 0, 10, 1, 0, 10, 2);
        merged("0-10 0-10", 0, 10, 0, 0, 10, 1, 0, 10, 2, 0, 10, 3);
        merged("0-10 0-10 0-10", 0, 10, 0, 0, 10, 1, 0, 10, 2, 0, 10, 2, 0, 10, 1);
        merged("0-30 2-30", 0, 9, 0, 1, 30, 1, 2, 30, 2);
        CutConformer x = Make.spoken(0, 10, 0, 0, 10, 1, 0, 10, 2, 0, 10, 2, 0, 10, 1);
        x.conform(2);
        int[] parts = {2, 1, 2};
        for (int i = 0; i < 3; i++) check.due("parts of " + i, x.subtitle(i, 2), parts[i]);
    }

    private static void becomes(CutConformer x, int step, String want) {
        String before = Check.times(x);
        x.conform(step);
        check.times(before + " by step " + step, x, want);
    }

    private static void readingLess() {
        check.sentence("Step 3", "whose length is less than its reading length ends later: at its first frame plus its reading length");
        becomes(Make.timed(1000, 100, 123), 4, "100-124");
        becomes(Make.timed(1000, 100, 124), 4, "100-124");
        becomes(Make.timed(1000, 100, 125), 4, "100-125");
        becomes(Make.timed(1000, 0, 1), 4, "0-24");
        CutConformer x = Make.timed(1000);
        Check.add(x, 100, 101, 0, "13 characters");
        becomes(x, 4, "100-126");
        CutConformer longest = Make.timed(5000, 0, 1);
        longest.drop(0);
        Check.add(longest, 0, 9, 0, "a".repeat(40));
        Check.add(longest, 0, 9, 1, "a".repeat(40));
        longest.conform(2);
        longest.set(0, 20);
        becomes(longest, 4, "0-1680");
    }

    private static void readingLengthOfCut() {
        check.sentence("Step 3", "but not later than the length of the new cut");
        becomes(Make.timed(124, 100, 110), 4, "100-124");
        becomes(Make.timed(123, 100, 110), 4, "100-123");
        becomes(Make.timed(111, 100, 110), 4, "100-111");
        becomes(Make.timed(110, 100, 110), 4, "100-110");
        CutConformer x = Make.timed(5000, 9990, 9991);
        x.piece(0, 4999);
        becomes(x, 4, "9990-9999");
    }

    private static void readingNext() {
        check.sentence("Step 3", "and not later than the first frame of the next subtitle (that with the smallest first frame greater "
            + "than its own one) minus the gap");
        becomes(Make.timed(1000, 100, 110, 126, 150), 4, "100-124 126-150");
        becomes(Make.timed(1000, 100, 110, 125, 149), 4, "100-123 125-149");
        becomes(Make.timed(1000, 100, 110, 113, 140), 4, "100-111 113-140");
        becomes(Make.timed(1000, 100, 110, 112, 140), 4, "100-110 112-140");
        becomes(Make.timed(1000, 100, 101, 100, 102, 100, 103, 120, 150), 4, "100-118 100-118 100-118 120-150");
        becomes(Make.timed(1000, 100, 101, 100, 102), 4, "100-124 100-124");
        CutConformer x = Make.timed(1000, 100, 110, 120, 150);
        x.set(2, 0);
        becomes(x, 4, "100-120 120-150");
        CutConformer both = Make.timed(116, 100, 110, 119, 150);
        becomes(both, 4, "100-116 119-150");
        CutConformer other = Make.timed(118, 100, 110, 119, 150);
        becomes(other, 4, "100-117 119-150");
    }

    private static void readingNeverEarlier() {
        check.sentence("Step 3", "it never ends earlier than before");
        becomes(Make.timed(1000, 100, 110, 111, 150), 4, "100-110 111-150");
        becomes(Make.timed(1000, 100, 110, 101, 150), 4, "100-110 101-150");
        becomes(Make.timed(109, 100, 110), 4, "100-110");
        becomes(Make.timed(50, 100, 110), 4, "100-110");
        becomes(Make.timed(0, 100, 110), 4, "100-110");
        becomes(Make.timed(0, 9998, 9999), 4, "9998-9999");
        CutConformer x = Make.timed(1000, 0, 1, 1, 30);
        x.set(2, 50);
        becomes(x, 4, "0-1 1-30");
    }

    /** The shot changes come as frames behind the reach. */
    private static CutConformer shot(CutConformer x, int reach, int... frames) {
        x.set(3, reach);
        for (int frame : frames) x.shot(frame, true);
        return x;
    }

    private static void snappingReach() {
        check.sentence("Step 4", "if some shot change is at most the reach away from its first frame");
        becomes(shot(Make.timed(0, 100, 200), 6, 94), 8, "94-200");
        becomes(shot(Make.timed(0, 100, 200), 6, 93), 8, "100-200");
        becomes(shot(Make.timed(0, 100, 200), 6, 106), 8, "106-200");
        becomes(shot(Make.timed(0, 100, 200), 6, 107), 8, "100-200");
        becomes(shot(Make.timed(0, 100, 200), 0, 99, 101), 8, "100-200");
        becomes(shot(Make.timed(0, 100, 200), 0, 100), 8, "100-200");
        becomes(shot(Make.timed(0, 100, 200), 50, 50), 8, "50-200");
        becomes(shot(Make.timed(0, 100, 200), 50, 49), 8, "100-200");
        becomes(shot(Make.timed(0, 0, 200), 1, 1), 8, "1-200");
        becomes(shot(Make.timed(0, 0, 200), 1), 8, "0-200");
        int[] twenty = {5, 10, 15, 20, 25, 30, 35, 40, 45, 50, 55, 60, 65, 70, 75, 80, 85, 90, 95, 9998};
        becomes(shot(Make.timed(0, 3, 9997), 2, twenty), 8, "5-9998");
    }

    private static void snappingNearest() {
        check.sentence("Step 4", "the nearest one (of two the smaller one) becomes its first frame");
        becomes(shot(Make.timed(0, 100, 200), 6, 95, 105), 8, "95-200");
        becomes(shot(Make.timed(0, 100, 200), 6, 95, 104), 8, "104-200");
        becomes(shot(Make.timed(0, 100, 200), 6, 94, 95, 99, 101, 105), 8, "99-200");
        becomes(shot(Make.timed(0, 100, 200), 6, 99, 100, 101), 8, "100-200");
        becomes(shot(Make.timed(0, 100, 200), 6, 195, 205), 8, "100-195");
        becomes(shot(Make.timed(0, 100, 200), 6, 195, 204), 8, "100-204");
    }

    private static void snappingLessThanEnd() {
        check.sentence("Step 4", "if it is less than the end");
        becomes(shot(Make.timed(0, 100, 103), 2, 102), 8, "102-103");
        becomes(shot(Make.timed(0, 100, 103), 3, 103), 8, "100-103");
        becomes(shot(Make.timed(0, 100, 103), 4, 104), 8, "100-104");
        // the nearest one alone is tried
        becomes(shot(Make.timed(0, 100, 101), 6, 96, 102), 8, "100-102");
    }

    private static void snappingEnd() {
        check.sentence("Step 4", "then, likewise, the shot change nearest to its end becomes its end, if it is greater than the first "
            + "frame");
        becomes(shot(Make.timed(0, 100, 200), 6, 206), 8, "100-206");
        becomes(shot(Make.timed(0, 100, 200), 6, 207), 8, "100-200");
        becomes(shot(Make.timed(0, 100, 200), 6, 194), 8, "100-194");
        becomes(shot(Make.timed(0, 100, 200), 6, 193), 8, "100-200");
        becomes(shot(Make.timed(0, 100, 104), 3, 101), 8, "101-104");
        becomes(shot(Make.timed(0, 98, 104), 3, 101), 8, "101-104");
        becomes(shot(Make.timed(0, 97, 104), 3, 101), 8, "97-101");
        becomes(shot(Make.timed(0, 100, 104), 4, 100), 8, "100-104");
        becomes(shot(Make.timed(0, 100, 104), 5, 99), 8, "99-104");
        becomes(shot(Make.timed(0, 100, 102), 6, 97, 103), 8, "97-103");
        becomes(shot(Make.timed(0, 9000, 9999), 1, 9998), 8, "9000-9998");
        becomes(shot(Make.timed(0, 0, 1), 6, 1), 8, "0-1");
        becomes(shot(Make.timed(0, 0, 1), 6, 2), 8, "0-2");
    }

    private static void snappingNumbersAnew() {
        check.sentence("Step 4", "of those with the same first frame then, also of those that were not moved, the one with the smaller "
            + "old number comes first.");
        CutConformer x = shot(Make.spoken(44, 90, 0, 47, 91, 1, 50, 92, 2, 52, 93, 3, 57, 94, 0), 6, 50);
        becomes(x, 8, "50-90 50-91 50-92 50-93 57-94");
        CutConformer passed = shot(Make.spoken(45, 90, 0, 46, 48, 1, 47, 49, 2, 48, 91, 3), 6, 50);
        becomes(passed, 8, "46-50 47-50 50-90 50-91");
        int[] speakers = {1, 2, 0, 3};
        for (int i = 0; i < 4; i++) check.due("speaker of " + i, passed.part(i, 0, 0), speakers[i]);
        CutConformer back = shot(Make.spoken(49, 90, 0, 50, 91, 1, 51, 92, 2, 52, 93, 3), 1, 50);
        becomes(back, 8, "50-90 50-91 50-92 52-93");
        CutConformer ahead = shot(Make.spoken(48, 90, 0, 49, 91, 1, 51, 92, 2), 2, 47);
        becomes(ahead, 8, "47-90 47-91 51-92");
    }

    private static void gapsLess() {
        check.sentence("Step 5", "whose first frame minus the gap is less than the end of the subtitle, ends there");
        becomes(Make.timed(0, 100, 128, 130, 150), 16, "100-128 130-150");
        becomes(Make.timed(0, 100, 129, 130, 150), 16, "100-128 130-150");
        becomes(Make.timed(0, 100, 127, 130, 150), 16, "100-127 130-150");
        becomes(Make.timed(0, 100, 9999, 130, 150), 16, "100-128 130-150");
        CutConformer x = Make.timed(0, 100, 131, 130, 150);
        x.set(2, 0);
        becomes(x, 16, "100-130 130-150");
        CutConformer widest = Make.timed(0, 100, 200, 160, 170);
        widest.set(2, 50);
        becomes(widest, 16, "100-110 160-170");
    }

    private static void gapsNotBefore() {
        check.sentence("Step 5", "but not before its first frame plus 1");
        becomes(Make.timed(0, 100, 120, 103, 150), 16, "100-101 103-150");
        becomes(Make.timed(0, 100, 120, 102, 150), 16, "100-101 102-150");
        becomes(Make.timed(0, 100, 120, 101, 150), 16, "100-101 101-150");
        becomes(Make.timed(0, 100, 101, 101, 150), 16, "100-101 101-150");
        becomes(Make.timed(0, 100, 120, 104, 150), 16, "100-102 104-150");
        CutConformer x = Make.timed(0, 0, 9, 1, 150);
        x.set(2, 50);
        becomes(x, 16, "0-1 1-150");
    }

    private static void gapsNext() {
        check.sentence("Step 5", "for which there is a next one (as in 3.)");
        becomes(Make.timed(0, 100, 9999), 16, "100-9999");
        becomes(Make.timed(0, 100, 120, 100, 130, 100, 140), 16, "100-120 100-130 100-140");
        becomes(Make.timed(0, 100, 120, 100, 130, 110, 140, 110, 150), 16, "100-108 100-108 110-140 110-150");
        becomes(Make.timed(0, 10, 90, 20, 90, 30, 90, 40, 90), 16, "10-18 20-28 30-38 40-90");
        becomes(Make.timed(0), 16, "");
    }
}

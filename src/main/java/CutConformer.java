/**
 * Brings the subtitles of a film to a new cut of it. ../shared/DOC.md says what each method does.
 *
 * <p>All rows are made by the constructor and used again; only add() makes something new, the part
 * with the text that was typed. Parts never change, so all states hold the same ones.
 */
public final class CutConformer {
    public static final int BAD = -1, STATE = -2, FULL = -3, NONE = -9;

    private static final int OLD_FRAMES = 10000;
    private static final int LAST_FRAME = 9999;
    private static final int LATEST_END = 9999;
    private static final int LAST_SHOT = 9998;
    private static final int LONGEST_PIECE = 5000;
    private static final int SHORTEST_STRETCH = 4;

    private static final int MOST_PIECES = 10;
    private static final int MOST_SHOTS = 20;
    private static final int MOST_SUBTITLES = 16;
    private static final int MOST_BYTES = 40;
    private static final int MOST_STATES = 8;

    private static final int LAST_SPEAKER = 3;
    private static final int BLANK = 32;
    private static final int LAST_BYTE = 126;
    private static final int WRONG_TEXT = -10;

    private static final int PER_CHARACTER = 0, LEAST_LENGTH = 1, GAP = 2, REACH = 3, WIDTH = 4;
    private static final int[] LOWEST = {1, 1, 0, 0, 8};
    private static final int[] HIGHEST = {20, 200, 50, 50, 40};
    private static final int[] AT_FIRST = {2, 24, 2, 6, 16};

    private static final int MAPPING = 1, MERGING = 2, READING = 4, SNAPPING = 8, GAPS = 16;
    private static final int ALL_STEPS = 31;

    private static final int TOO_SHORT = 1, TOO_CLOSE = 2, SAME_FIRST = 4;
    private static final int OFF_SHOT = 8, TOO_WIDE = 16, BEHIND_CUT = 32;

    private static final int LAST_TOLD = 11;
    private static final long FIRST_HASH = 18771;

    private final byte[] typed = new byte[MOST_BYTES];
    private int typedBytes;
    private final State now;
    private final Trial trial;
    private final History history;

    public CutConformer() {
        Part nobody = new Part(0, new byte[0], 0);
        now = new State(nobody);
        trial = new Trial(nobody);
        history = new History(nobody);
    }

    // ---- cuts

    public int piece(int first, int length) {
        if (!isWithin(first, 0, LAST_FRAME) || !isWithin(length, 1, LONGEST_PIECE)) return BAD;
        if (first + length > OLD_FRAMES) return BAD;
        if (now.cut.size() >= MOST_PIECES || now.cut.frames() + length > LATEST_END) return FULL;
        history.record(now);
        now.cut.append(first, length);
        return now.cut.size() - 1;
    }

    public int dropPiece(int piece) {
        if (!now.cut.has(piece)) return BAD;
        history.record(now);
        now.cut.remove(piece);
        return now.cut.frames();
    }

    public int pieceAt(int piece, int what) {
        if (!now.cut.has(piece)) return BAD;
        switch (what) {
            case 0: return now.cut.firstOf(piece);
            case 1: return now.cut.lengthOf(piece);
            case 2: return now.cut.startOf(piece);
            default: return BAD;
        }
    }

    public int shot(int frame, boolean on) {
        if (!isWithin(frame, 1, LAST_SHOT)) return BAD;
        if (on && !now.shots.has(frame) && now.shots.size() >= MOST_SHOTS) return FULL;
        history.record(now);
        if (on) now.shots.insert(frame);
        else now.shots.remove(frame);
        return now.shots.size();
    }

    public int shotAt(int k) {
        return k < 0 ? BAD : now.shots.at(k);
    }

    public int toNew(int frame, int k) {
        if (!isWithin(frame, 0, LAST_FRAME) || k < 0) return BAD;
        return now.cut.newFrame(frame, k);
    }

    public int toOld(int frame) {
        return isWithin(frame, 0, LAST_FRAME) ? now.cut.oldFrame(frame) : BAD;
    }

    // ---- subtitles

    public int type(int c) {
        if (!isWithin(c, BLANK, LAST_BYTE)) return BAD;
        if (typedBytes < 0 || typedBytes >= typed.length) return FULL;
        typed[typedBytes] = (byte) c;
        typedBytes++;
        return typedBytes;
    }

    public int clear() {
        int had = typedBytes;
        typedBytes = 0;
        return had;
    }

    public int add(int first, int end, int speaker) {
        if (!isTime(first, end) || !isWithin(speaker, 0, LAST_SPEAKER)) return BAD;
        if (now.track.isFull()) return FULL;
        if (typedBytes == 0) return WRONG_TEXT;
        int blank = firstWrongBlank();
        if (blank != NONE) return WRONG_TEXT - blank;
        history.record(now);
        return now.track.insert(first, end, new Part(speaker, typed, typedBytes));
    }

    public int drop(int i) {
        if (!now.track.has(i)) return BAD;
        history.record(now);
        now.track.remove(i);
        return now.track.size();
    }

    public int move(int i, int first, int end) {
        if (!now.track.has(i) || !isTime(first, end)) return BAD;
        history.record(now);
        return now.track.retime(i, first, end);
    }

    public int subtitle(int i, int what) {
        if (!now.track.has(i)) return BAD;
        Subtitle row = now.track.at(i);
        switch (what) {
            case 0: return row.first;
            case 1: return row.end;
            case 2: return row.parts;
            case 3: return row.characters();
            case 4: return now.readingLength(row);
            case 5: return now.faultsOf(i);
            case 6: return now.track.next(i);
            default: return BAD;
        }
    }

    public int part(int i, int part, int what) {
        if (!now.track.has(i) || !isWithin(part, 0, 1)) return BAD;
        if (what < 0 || what > 3 && what < 10) return BAD;
        Subtitle row = now.track.at(i);
        if (part >= row.parts) return NONE;
        Part wanted = part == 0 ? row.one : row.two;
        if (what >= 10) return wanted.byteAt(what - 10);
        if (what == 0) return wanted.speaker;
        if (what == 1) return wanted.bytes();
        int blank = wanted.brokenAt(now.settings.at(WIDTH));
        if (what == 2) return blank == NONE ? wanted.bytes() : blank;
        return blank == NONE ? NONE : wanted.rankOf(blank);
    }

    // ---- steps

    public int set(int what, int v) {
        if (!now.settings.takes(what, v)) return BAD;
        history.record(now);
        int before = now.settings.at(what);
        now.settings.put(what, v);
        return before;
    }

    public int conform(int steps) {
        if (!isWithin(steps, 1, ALL_STEPS)) return BAD;
        if (!trial.carryOut(now, steps)) return FULL;
        history.record(now);
        now.become(trial.result);
        return now.track.size();
    }

    public int ifConform(int steps, int what) {
        if (!isWithin(steps, 1, ALL_STEPS) || !isWithin(what, 0, 4)) return BAD;
        if (!trial.carryOut(now, steps)) return FULL;
        switch (what) {
            case 0: return trial.result.track.size();
            case 1: return trial.result.track.allLengths();
            case 2: return trial.result.countFaulty(0);
            case 3: return trial.result.track.greatestEnd();
            default: return trial.lost;
        }
    }

    public int stretches(int i) {
        if (!now.track.has(i)) return BAD;
        return trial.countStretches(now.track.at(i), now.cut);
    }

    public int shown(int frame) {
        return isWithin(frame, 0, LAST_FRAME) ? now.track.shownAt(frame) : BAD;
    }

    public int faults(int fault) {
        if (!isWithin(fault, 0, BEHIND_CUT) || Integer.bitCount(fault) > 1) return BAD;
        return now.countFaulty(fault);
    }

    // ---- the whole

    public int told(int what) {
        if (what >= PER_CHARACTER && what <= WIDTH) return now.settings.at(what);
        switch (what) {
            case 5: return now.cut.size();
            case 6: return now.cut.frames();
            case 7: return now.shots.size();
            case 8: return now.track.size();
            case 9: return now.track.countPairs();
            case 10: return typedBytes;
            case 11: return history.size();
            default: return BAD;
        }
    }

    public int undo() {
        if (history.size() == 0) return STATE;
        history.restore(now);
        return history.size();
    }

    public long digest() {
        long h = FIRST_HASH;
        for (int what = 0; what <= LAST_TOLD; what++) h = 31 * h + told(what);
        for (int p = 0; p < now.cut.size(); p++) {
            for (int what = 0; what <= 2; what++) h = 31 * h + pieceAt(p, what);
        }
        for (int k = 0; k < now.shots.size(); k++) h = 31 * h + shotAt(k);
        for (int i = 0; i < now.track.size(); i++) h = hashSubtitle(h, i);
        h = 31 * h + faults(0);
        for (int fault = TOO_SHORT; fault <= BEHIND_CUT; fault *= 2) h = 31 * h + faults(fault);
        for (int what = 0; what <= 4; what++) h = 31 * h + ifConform(ALL_STEPS, what);
        return h;
    }

    private long hashSubtitle(long before, int i) {
        long h = before;
        for (int what = 0; what <= 6; what++) h = 31 * h + subtitle(i, what);
        h = 31 * h + stretches(i);
        int parts = subtitle(i, 2);
        for (int p = 0; p < parts; p++) {
            for (int what = 0; what <= 3; what++) h = 31 * h + part(i, p, what);
            int bytes = part(i, p, 1);
            for (int b = 0; b < bytes; b++) h = 31 * h + part(i, p, 10 + b);
        }
        return h;
    }

    private int firstWrongBlank() {
        boolean wordBefore = false;
        for (int b = 0; b < typedBytes && b < typed.length; b++) {
            boolean blank = typed[b] == BLANK;
            if (blank && (!wordBefore || b == typedBytes - 1)) return b;
            wordBefore = !blank;
        }
        return NONE;
    }

    private static boolean isWithin(int v, int lowest, int highest) {
        return v >= lowest && v <= highest;
    }

    private static boolean isTime(int first, int end) {
        return first >= 0 && first < end && end <= LATEST_END;
    }

    /** What one speaker says. It never changes. */
    private static final class Part {
        /** More than any cost of a blank with which both lines are narrow enough. */
        private static final int WIDE_COST = 1000;
        private static final int RANK_COST = 6;

        final int speaker;
        private final byte[] text;

        Part(int speaker, byte[] bytes, int count) {
            int kept = Math.max(0, Math.min(count, bytes.length));
            this.speaker = speaker;
            text = new byte[kept];
            System.arraycopy(bytes, 0, text, 0, kept);
        }

        int bytes() {
            return text.length;
        }

        int byteAt(int b) {
            return b >= 0 && b < text.length ? text[b] : NONE;
        }

        /** The blank at which the text is broken, or NONE if it stands in one line. */
        int brokenAt(int width) {
            int best = NONE;
            int least = 0;
            if (text.length <= width) return best;
            for (int b = 0; b < text.length; b++) {
                if (text[b] != BLANK) continue;
                int longer = longerLine(b);
                int shorter = text.length - 1 - longer;
                int cost = longer > width
                    ? WIDE_COST + longer
                    : longer - shorter + RANK_COST * rankOf(b);
                if (best == NONE || cost < least) {
                    best = b;
                    least = cost;
                }
            }
            return best;
        }

        boolean isTooWide(int width) {
            boolean wide = text.length > width;
            for (int b = 0; wide && b < text.length; b++) {
                if (text[b] == BLANK && longerLine(b) <= width) wide = false;
            }
            return wide;
        }

        /** 0 to 3: the smaller, the better a line may end at this blank. */
        int rankOf(int blank) {
            int before = byteAt(blank - 1);
            if (before == '.' || before == '!' || before == '?') return 0;
            if (before == ',' || before == ':') return 1;
            int word = blank + 1;
            return isWord(word, "and") || isWord(word, "or") || isWord(word, "but") ? 2 : 3;
        }

        private int longerLine(int blank) {
            int behind = text.length - 1 - blank;
            return blank > behind ? blank : behind;
        }

        private boolean isWord(int from, String word) {
            for (int k = 0; k < word.length(); k++) {
                if (byteAt(from + k) != word.charAt(k)) return false;
            }
            int behind = byteAt(from + word.length());
            return behind == BLANK || behind == NONE;
        }
    }

    /** A row of a track: a subtitle, or place for one. */
    private static final class Subtitle {
        int first;
        int end;
        int parts;
        Part one;
        Part two;

        Subtitle(Part nobody) {
            one = nobody;
            two = nobody;
        }

        void become(Subtitle other) {
            first = other.first;
            end = other.end;
            parts = other.parts;
            one = other.one;
            two = other.two;
        }

        int length() {
            return end - first;
        }

        int characters() {
            return parts == 2 ? one.bytes() + two.bytes() + 4 : one.bytes();
        }

        boolean isTooWide(int width) {
            return one.isTooWide(width) || parts == 2 && two.isTooWide(width);
        }

        /** Whether two speakers talk into each other, so that merging makes one of both. */
        boolean overlaps(Subtitle other) {
            if (parts != 1 || other.parts != 1 || one.speaker == other.one.speaker) return false;
            int common = Math.min(end, other.end) - Math.max(first, other.first);
            return common > 0 && 2 * common >= Math.min(length(), other.length());
        }

        void takeIn(Subtitle other) {
            two = other.one;
            parts = 2;
            end = Math.max(end, other.end);
        }
    }

    /** Subtitles in the order of their first frames. */
    private static final class Track {
        private final Subtitle[] rows = new Subtitle[MOST_SUBTITLES];
        /** Stands for subtitles that there are not. */
        private final Subtitle missing;
        private int count;

        Track(Part nobody) {
            for (int i = 0; i < rows.length; i++) rows[i] = new Subtitle(nobody);
            missing = new Subtitle(nobody);
        }

        void become(Track other) {
            count = other.count;
            for (int i = 0; i < count; i++) rows[i].become(other.rows[i]);
        }

        int size() {
            return count;
        }

        boolean isFull() {
            return count >= MOST_SUBTITLES;
        }

        boolean has(int i) {
            return i >= 0 && i < count;
        }

        Subtitle at(int i) {
            return has(i) ? rows[i] : missing;
        }

        void empty() {
            count = 0;
        }

        int insert(int first, int end, Part part) {
            if (isFull()) return NONE;
            Subtitle row = rows[count];
            row.first = first;
            row.end = end;
            row.parts = 1;
            row.one = part;
            count++;
            return settle(count - 1);
        }

        void insertLike(Subtitle model, int first, int end) {
            if (isFull()) return;
            Subtitle row = rows[count];
            row.become(model);
            row.first = first;
            row.end = end;
            count++;
            settle(count - 1);
        }

        /** The row goes behind the others, so that it can be used again. */
        void remove(int i) {
            if (!has(i)) return;
            Subtitle row = rows[i];
            for (int k = i; k + 1 < count; k++) rows[k] = rows[k + 1];
            count--;
            rows[count] = row;
        }

        /** Goes through the last place, so that it comes behind those with the same first frame. */
        int retime(int i, int first, int end) {
            if (!has(i)) return NONE;
            remove(i);
            rows[count].first = first;
            rows[count].end = end;
            count++;
            return settle(count - 1);
        }

        /** Rows with the same first frame keep their order. */
        void settleAll() {
            for (int i = 1; i < count; i++) settle(i);
        }

        private int settle(int i) {
            int place = has(i) ? i : 0;
            while (place > 0 && rows[place - 1].first > rows[place].first) {
                Subtitle later = rows[place - 1];
                rows[place - 1] = rows[place];
                rows[place] = later;
                place--;
            }
            return place;
        }

        int next(int i) {
            for (int k = i + 1; has(i) && k < count; k++) {
                if (rows[k].first > rows[i].first) return k;
            }
            return NONE;
        }

        boolean sharesFirst(int i) {
            int first = at(i).first;
            return has(i - 1) && at(i - 1).first == first || has(i + 1) && at(i + 1).first == first;
        }

        int allLengths() {
            int sum = 0;
            for (int i = 0; i < count; i++) sum += rows[i].length();
            return sum;
        }

        int greatestEnd() {
            int greatest = 0;
            for (int i = 0; i < count; i++) greatest = Math.max(greatest, rows[i].end);
            return greatest;
        }

        int countPairs() {
            int pairs = 0;
            for (int i = 0; i < count; i++) {
                if (rows[i].parts == 2) pairs++;
            }
            return pairs;
        }

        int shownAt(int frame) {
            int mask = 0;
            for (int i = 0; i < count; i++) {
                if (rows[i].first <= frame && frame < rows[i].end) mask |= 1 << i;
            }
            return mask;
        }
    }

    /** The edit list. */
    private static final class Cut {
        private final int[] firsts = new int[MOST_PIECES];
        private final int[] lengths = new int[MOST_PIECES];
        private int count;

        void become(Cut other) {
            count = other.count;
            System.arraycopy(other.firsts, 0, firsts, 0, MOST_PIECES);
            System.arraycopy(other.lengths, 0, lengths, 0, MOST_PIECES);
        }

        int size() {
            return count;
        }

        boolean has(int p) {
            return p >= 0 && p < count;
        }

        int firstOf(int p) {
            return has(p) ? firsts[p] : 0;
        }

        int lengthOf(int p) {
            return has(p) ? lengths[p] : 0;
        }

        int startOf(int p) {
            int start = 0;
            for (int k = 0; k < p && k < count; k++) start += lengths[k];
            return start;
        }

        int frames() {
            return startOf(count);
        }

        void append(int first, int length) {
            if (count >= MOST_PIECES) return;
            firsts[count] = first;
            lengths[count] = length;
            count++;
        }

        void remove(int p) {
            if (!has(p)) return;
            for (int k = p; k + 1 < count; k++) {
                firsts[k] = firsts[k + 1];
                lengths[k] = lengths[k + 1];
            }
            count--;
        }

        int newFrame(int frame, int passed) {
            int left = passed;
            int start = 0;
            for (int p = 0; p < count; p++) {
                int into = frame - firsts[p];
                if (into >= 0 && into < lengths[p]) {
                    if (left == 0) return start + into;
                    left--;
                }
                start += lengths[p];
            }
            return NONE;
        }

        int oldFrame(int frame) {
            int into = frame;
            for (int p = 0; p < count; p++) {
                if (into < lengths[p]) return firsts[p] + into;
                into -= lengths[p];
            }
            return NONE;
        }
    }

    /** The shot changes in ascending order. */
    private static final class Shots {
        private final int[] frames = new int[MOST_SHOTS];
        private int count;

        void become(Shots other) {
            count = other.count;
            System.arraycopy(other.frames, 0, frames, 0, MOST_SHOTS);
        }

        int size() {
            return count;
        }

        int at(int k) {
            return k >= 0 && k < count ? frames[k] : NONE;
        }

        boolean has(int frame) {
            return nearest(frame, 0) != NONE;
        }

        /** NONE if no shot change is at most the reach away. */
        int nearest(int frame, int reach) {
            int best = NONE;
            int least = reach + 1;
            for (int k = 0; k < count; k++) {
                int away = Math.abs(frames[k] - frame);
                if (away < least) {
                    best = frames[k];
                    least = away;
                }
            }
            return best;
        }

        boolean isMissed(int frame, int reach) {
            int near = nearest(frame, reach);
            return near != NONE && near != frame;
        }

        void insert(int frame) {
            if (count >= MOST_SHOTS || has(frame)) return;
            int place = count;
            while (place > 0 && frames[place - 1] > frame) {
                frames[place] = frames[place - 1];
                place--;
            }
            frames[place] = frame;
            count++;
        }

        void remove(int frame) {
            int kept = 0;
            for (int k = 0; k < count; k++) {
                frames[kept] = frames[k];
                if (frames[k] != frame) kept++;
            }
            count = kept;
        }
    }

    private static final class Settings {
        private final int[] values = new int[AT_FIRST.length];

        Settings() {
            System.arraycopy(AT_FIRST, 0, values, 0, values.length);
        }

        void become(Settings other) {
            System.arraycopy(other.values, 0, values, 0, values.length);
        }

        int at(int what) {
            return what >= 0 && what < values.length ? values[what] : 0;
        }

        boolean takes(int what, int v) {
            if (what < 0 || what >= LOWEST.length || what >= HIGHEST.length) return false;
            return v >= LOWEST[what] && v <= HIGHEST[what];
        }

        void put(int what, int v) {
            if (what >= 0 && what < values.length) values[what] = v;
        }
    }

    /** All that undo() brings back. */
    private static final class State {
        final Cut cut = new Cut();
        final Shots shots = new Shots();
        final Settings settings = new Settings();
        final Track track;

        State(Part nobody) {
            track = new Track(nobody);
        }

        void become(State other) {
            cut.become(other.cut);
            shots.become(other.shots);
            settings.become(other.settings);
            track.become(other.track);
        }

        int readingLength(Subtitle row) {
            int needed = settings.at(PER_CHARACTER) * row.characters();
            return Math.max(settings.at(LEAST_LENGTH), needed);
        }

        /** The greatest end with which the gap is kept; no end at all is greater without a next one. */
        int latestEnd(int i) {
            int next = track.next(i);
            return next == NONE ? LATEST_END : track.at(next).first - settings.at(GAP);
        }

        int faultsOf(int i) {
            Subtitle row = track.at(i);
            int reach = settings.at(REACH);
            int sum = 0;
            if (row.length() < readingLength(row)) sum += TOO_SHORT;
            if (row.end > latestEnd(i)) sum += TOO_CLOSE;
            if (track.sharesFirst(i)) sum += SAME_FIRST;
            if (shots.isMissed(row.first, reach) || shots.isMissed(row.end, reach)) sum += OFF_SHOT;
            if (row.isTooWide(settings.at(WIDTH))) sum += TOO_WIDE;
            if (row.end > cut.frames()) sum += BEHIND_CUT;
            return sum;
        }

        /** How many have this fault, or any at all if it is 0. */
        int countFaulty(int fault) {
            int wanted = fault == 0 ? -1 : fault;
            int faulty = 0;
            for (int i = 0; i < track.size(); i++) {
                if ((faultsOf(i) & wanted) != 0) faulty++;
            }
            return faulty;
        }
    }

    /** Carries out steps on a state of its own. */
    private static final class Trial {
        final State result;
        int lost;
        private final int[] begins = new int[MOST_PIECES];
        private final int[] ends = new int[MOST_PIECES];
        private int found;

        Trial(Part nobody) {
            result = new State(nobody);
        }

        /** Whether there is place for what mapping gives; if not, the result is of no use. */
        boolean carryOut(State from, int steps) {
            result.become(from);
            lost = 0;
            if ((steps & MAPPING) != 0 && !map(from)) return false;
            if ((steps & MERGING) != 0) merge();
            if ((steps & READING) != 0) stretch();
            if ((steps & SNAPPING) != 0) snap();
            if ((steps & GAPS) != 0) keepGaps();
            return true;
        }

        int countStretches(Subtitle row, Cut cut) {
            findStretches(row, cut);
            return found;
        }

        private boolean map(State from) {
            Track track = result.track;
            track.empty();
            for (int i = 0; i < from.track.size(); i++) {
                Subtitle row = from.track.at(i);
                findStretches(row, from.cut);
                if (found == 0) lost++;
                if (track.size() + found > MOST_SUBTITLES) return false;
                for (int k = 0; k < found; k++) track.insertLike(row, begins[k], ends[k]);
            }
            return true;
        }

        private void findStretches(Subtitle row, Cut cut) {
            found = 0;
            int start = 0;
            for (int p = 0; p < cut.size(); p++) {
                int first = cut.firstOf(p);
                int from = Math.max(row.first, first);
                int to = Math.min(row.end, first + cut.lengthOf(p));
                if (to - from >= SHORTEST_STRETCH) put(start + from - first, start + to - first);
                start += cut.lengthOf(p);
            }
        }

        private void put(int begin, int end) {
            if (found > 0 && ends[found - 1] == begin) {
                ends[found - 1] = end;
            } else if (found < MOST_PIECES) {
                begins[found] = begin;
                ends[found] = end;
                found++;
            }
        }

        private void merge() {
            Track track = result.track;
            for (int i = 0; i + 1 < track.size(); i++) {
                if (track.at(i).overlaps(track.at(i + 1))) {
                    track.at(i).takeIn(track.at(i + 1));
                    track.remove(i + 1);
                }
            }
        }

        private void stretch() {
            int frames = result.cut.frames();
            for (int i = 0; i < result.track.size(); i++) {
                Subtitle row = result.track.at(i);
                int latest = Math.min(frames, result.latestEnd(i));
                int wanted = row.first + result.readingLength(row);
                row.end = Math.max(row.end, Math.min(wanted, latest));
            }
        }

        private void snap() {
            int reach = result.settings.at(REACH);
            for (int i = 0; i < result.track.size(); i++) {
                Subtitle row = result.track.at(i);
                int shot = result.shots.nearest(row.first, reach);
                if (shot != NONE && shot < row.end) row.first = shot;
                shot = result.shots.nearest(row.end, reach);
                if (shot != NONE && shot > row.first) row.end = shot;
            }
            // not before: a row that changed its place within the loop could be snapped twice, or not at all
            result.track.settleAll();
        }

        private void keepGaps() {
            for (int i = 0; i < result.track.size(); i++) {
                Subtitle row = result.track.at(i);
                int latest = Math.max(result.latestEnd(i), row.first + 1);
                row.end = Math.min(row.end, latest);
            }
        }
    }

    /** The remembered states, the latest one last. */
    private static final class History {
        private final State[] states = new State[MOST_STATES];
        private int count;

        History(Part nobody) {
            for (int k = 0; k < states.length; k++) states[k] = new State(nobody);
        }

        int size() {
            return count;
        }

        void record(State state) {
            if (count >= states.length) forgetOldest();
            states[count].become(state);
            count++;
        }

        void restore(State state) {
            if (count <= 0) return;
            count--;
            state.become(states[count]);
        }

        /** Its rows go behind the others, so that they can be used again. */
        private void forgetOldest() {
            State oldest = states[0];
            for (int k = 0; k + 1 < states.length; k++) states[k] = states[k + 1];
            count = states.length - 1;
            states[count] = oldest;
        }
    }
}

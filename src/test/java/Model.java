import java.util.ArrayDeque;
import java.util.ArrayList;
import java.util.Comparator;
import java.util.Deque;
import java.util.List;
import java.util.TreeSet;

/**
 * The document once more, as plainly and as slowly as can be, with lists and copies: what
 * ModelTest holds the answers of CutConformer against.
 */
final class Model {
    private static final int BAD = -1, STATE = -2, FULL = -3, NONE = -9;

    private record Piece(int first, int length) { }

    private record Part(int speaker, String text) { }

    private record Sub(int first, int end, List<Part> parts) {
        Sub at(int newFirst, int newEnd) {
            return new Sub(newFirst, newEnd, parts);
        }

        int length() {
            return end - first;
        }

        int characters() {
            int sum = 4 * (parts.size() - 1);
            for (Part p : parts) sum += p.text.length();
            return sum;
        }
    }

    private record State(List<Piece> pieces, TreeSet<Integer> shots, List<Sub> subs, int[] settings) {
        State copy() {
            return new State(new ArrayList<>(pieces), new TreeSet<>(shots), new ArrayList<>(subs), settings.clone());
        }

        int cutLength() {
            return pieces.stream().mapToInt(Piece::length).sum();
        }

        List<Integer> oldFrames() {
            List<Integer> frames = new ArrayList<>();
            for (Piece p : pieces) for (int f = 0; f < p.length; f++) frames.add(p.first + f);
            return frames;
        }

        void sort() {
            subs.sort(Comparator.comparingInt(Sub::first));
        }

        int reading(Sub s) {
            return Math.max(settings[1], settings[0] * s.characters());
        }

        int next(Sub of) {
            int best = NONE;
            for (int j = 0; j < subs.size(); j++) {
                int first = subs.get(j).first;
                if (first > of.first && (best == NONE || first < subs.get(best).first)) best = j;
            }
            return best;
        }

        Integer nearShot(int frame) {
            for (int away = 0; away <= settings[3]; away++) {
                if (shots.contains(frame - away)) return frame - away;
                if (shots.contains(frame + away)) return frame + away;
            }
            return null;
        }

        int faults(int i) {
            Sub s = subs.get(i);
            int sum = 0;
            if (s.length() < reading(s)) sum |= 1;
            int next = next(s);
            if (next != NONE && s.end > subs.get(next).first - settings[2]) sum |= 2;
            for (int j = 0; j < subs.size(); j++) if (j != i && subs.get(j).first == s.first) sum |= 4;
            for (int frame : new int[] {s.first, s.end}) {
                if (!shots.contains(frame) && nearShot(frame) != null) sum |= 8;
            }
            for (Part p : s.parts) {
                for (String line : lines(p.text, settings[4])) if (line.length() > settings[4]) sum |= 16;
            }
            if (s.end > cutLength()) sum |= 32;
            return sum;
        }
    }

    private State now = new State(new ArrayList<>(), new TreeSet<>(), new ArrayList<>(), new int[] {2, 24, 2, 6, 16});
    private final Deque<State> remembered = new ArrayDeque<>();
    private String buffer = "";

    private void record() {
        remembered.addLast(now.copy());
        if (remembered.size() > 8) remembered.removeFirst();
    }

    private static boolean in(int v, int low, int high) {
        return low <= v && v <= high;
    }

    private boolean isSub(int i) {
        return in(i, 0, now.subs.size() - 1);
    }

    private static boolean isTime(int first, int end) {
        return in(first, 0, 9999) && in(end, 0, 9999) && first < end;
    }

    private static int rank(String text, int blank) {
        String front = text.substring(0, blank);
        if (front.matches(".*[.!?]")) return 0;
        if (front.matches(".*[,:]")) return 1;
        String word = text.substring(blank + 1).split(" ")[0];
        return List.of("and", "or", "but").contains(word) ? 2 : 3;
    }

    private static int brokenAt(String text, int width) {
        if (text.length() <= width) return NONE;
        List<Integer> all = new ArrayList<>();
        List<Integer> fitting = new ArrayList<>();
        for (int b = text.indexOf(' '); b >= 0; b = text.indexOf(' ', b + 1)) {
            all.add(b);
            if (longer(text, b) <= width) fitting.add(b);
        }
        if (!fitting.isEmpty()) {
            return fitting.stream().min(Comparator.comparingInt(
                b -> Math.abs(b - (text.length() - b - 1)) + 6 * rank(text, b))).get();
        }
        return all.stream().min(Comparator.comparingInt(b -> longer(text, b))).orElse(NONE);
    }

    private static int longer(String text, int blank) {
        return Math.max(text.substring(0, blank).length(), text.substring(blank + 1).length());
    }

    private static List<String> lines(String text, int width) {
        int blank = brokenAt(text, width);
        return blank == NONE ? List.of(text) : List.of(text.substring(0, blank), text.substring(blank + 1));
    }

    int piece(int first, int length) {
        if (!in(first, 0, 9999) || !in(length, 1, 5000) || first + length - 1 > 9999) return BAD;
        if (now.pieces.size() == 10 || now.cutLength() + length > 9999) return FULL;
        record();
        now.pieces.add(new Piece(first, length));
        return now.pieces.size() - 1;
    }

    int dropPiece(int piece) {
        if (!in(piece, 0, now.pieces.size() - 1)) return BAD;
        record();
        now.pieces.remove(piece);
        return now.cutLength();
    }

    int pieceAt(int piece, int what) {
        if (!in(piece, 0, now.pieces.size() - 1) || !in(what, 0, 2)) return BAD;
        Piece p = now.pieces.get(piece);
        if (what == 0) return p.first;
        if (what == 1) return p.length;
        return now.pieces.subList(0, piece).stream().mapToInt(Piece::length).sum();
    }

    int shot(int frame, boolean on) {
        if (!in(frame, 1, 9998)) return BAD;
        if (on && !now.shots.contains(frame) && now.shots.size() == 20) return FULL;
        record();
        if (on) now.shots.add(frame);
        else now.shots.remove(frame);
        return now.shots.size();
    }

    int shotAt(int k) {
        if (k < 0) return BAD;
        List<Integer> all = new ArrayList<>(now.shots);
        return k < all.size() ? all.get(k) : NONE;
    }

    int toNew(int frame, int k) {
        if (!in(frame, 0, 9999) || k < 0) return BAD;
        List<Integer> old = now.oldFrames();
        int passed = 0;
        for (int f = 0; f < old.size(); f++) {
            if (old.get(f) == frame && passed++ == k) return f;
        }
        return NONE;
    }

    int toOld(int frame) {
        if (!in(frame, 0, 9999)) return BAD;
        List<Integer> old = now.oldFrames();
        return frame < old.size() ? old.get(frame) : NONE;
    }

    int type(int c) {
        if (!in(c, 32, 126)) return BAD;
        if (buffer.length() == 40) return FULL;
        buffer += (char) c;
        return buffer.length();
    }

    int clear() {
        int had = buffer.length();
        buffer = "";
        return had;
    }

    int add(int first, int end, int speaker) {
        if (!isTime(first, end) || !in(speaker, 0, 3)) return BAD;
        if (now.subs.size() == 16) return FULL;
        if (buffer.isEmpty()) return -10;
        for (int b = 0; b < buffer.length(); b++) {
            boolean edge = b == 0 || b == buffer.length() - 1;
            if (buffer.charAt(b) == ' ' && (edge || buffer.charAt(b - 1) == ' ')) return -10 - b;
        }
        record();
        Sub added = new Sub(first, end, List.of(new Part(speaker, buffer)));
        now.subs.add(added);
        now.sort();
        return identity(added);
    }

    private int identity(Sub wanted) {
        for (int i = 0; i < now.subs.size(); i++) if (now.subs.get(i) == wanted) return i;
        throw new IllegalStateException();
    }

    int drop(int i) {
        if (!isSub(i)) return BAD;
        record();
        now.subs.remove(i);
        return now.subs.size();
    }

    int move(int i, int first, int end) {
        if (!isSub(i) || !isTime(first, end)) return BAD;
        record();
        Sub moved = now.subs.remove(i).at(first, end);
        now.subs.add(moved);
        now.sort();
        return identity(moved);
    }

    int subtitle(int i, int what) {
        if (!isSub(i) || !in(what, 0, 6)) return BAD;
        Sub s = now.subs.get(i);
        return new int[] {s.first, s.end, s.parts.size(), s.characters(), now.reading(s), now.faults(i), now.next(s)}[what];
    }

    int part(int i, int part, int what) {
        if (!isSub(i) || !in(part, 0, 1) || what < 0 || in(what, 4, 9)) return BAD;
        List<Part> parts = now.subs.get(i).parts;
        if (part >= parts.size()) return NONE;
        String text = parts.get(part).text;
        if (what >= 10) return what - 10 < text.length() ? text.charAt(what - 10) : NONE;
        int blank = brokenAt(text, now.settings[4]);
        int firstLine = lines(text, now.settings[4]).get(0).length();
        return new int[] {parts.get(part).speaker, text.length(), firstLine, blank == NONE ? NONE : rank(text, blank)}[what];
    }

    int set(int what, int v) {
        int[][] ranges = {{1, 20}, {1, 200}, {0, 50}, {0, 50}, {8, 40}};
        if (!in(what, 0, 4) || !in(v, ranges[what][0], ranges[what][1])) return BAD;
        record();
        int before = now.settings[what];
        now.settings[what] = v;
        return before;
    }

    private static List<Sub> stretchesOf(State state, Sub s) {
        List<Sub> found = new ArrayList<>();
        int start = 0;
        for (Piece p : state.pieces) {
            List<Integer> common = new ArrayList<>();
            for (int f = 0; f < p.length; f++) if (in(p.first + f, s.first, s.end - 1)) common.add(start + f);
            start += p.length;
            if (common.size() < 4) continue;
            int begin = common.get(0);
            int end = common.get(common.size() - 1) + 1;
            int last = found.size() - 1;
            if (last >= 0 && found.get(last).end == begin) found.set(last, s.at(found.get(last).first, end));
            else found.add(s.at(begin, end));
        }
        return found;
    }

    private static void merge(State state) {
        List<Sub> merged = new ArrayList<>();
        int i = 0;
        while (i < state.subs.size()) {
            Sub a = state.subs.get(i++);
            if (i < state.subs.size() && together(a, state.subs.get(i))) {
                Sub b = state.subs.get(i++);
                a = new Sub(a.first, Math.max(a.end, b.end), List.of(a.parts.get(0), b.parts.get(0)));
            }
            merged.add(a);
        }
        state.subs.clear();
        state.subs.addAll(merged);
    }

    private static boolean together(Sub a, Sub b) {
        if (a.parts.size() + b.parts.size() > 2 || a.parts.get(0).speaker == b.parts.get(0).speaker) return false;
        int common = 0;
        for (int f = a.first; f < a.end; f++) if (in(f, b.first, b.end - 1)) common++;
        return common > 0 && 2 * common >= Math.min(a.length(), b.length());
    }

    private static void read(State state) {
        for (int i = 0; i < state.subs.size(); i++) {
            Sub s = state.subs.get(i);
            if (s.length() >= state.reading(s)) continue;
            int end = Math.min(s.first + state.reading(s), state.cutLength());
            int next = state.next(s);
            if (next != NONE) end = Math.min(end, state.subs.get(next).first - state.settings[2]);
            if (end > s.end) state.subs.set(i, s.at(s.first, end));
        }
    }

    private static void snap(State state) {
        for (int i = 0; i < state.subs.size(); i++) {
            Sub s = state.subs.get(i);
            Integer near = state.nearShot(s.first);
            if (near != null && near < s.end) s = s.at(near, s.end);
            near = state.nearShot(s.end);
            if (near != null && near > s.first) s = s.at(s.first, near);
            state.subs.set(i, s);
        }
        state.sort();
    }

    private static void keepGaps(State state) {
        for (int i = 0; i < state.subs.size(); i++) {
            Sub s = state.subs.get(i);
            int next = state.next(s);
            if (next == NONE) continue;
            int latest = state.subs.get(next).first - state.settings[2];
            if (latest < s.end) state.subs.set(i, s.at(s.first, Math.max(latest, s.first + 1)));
        }
    }

    /** The state that the steps make of this one, or null if it is FULL. */
    private State conformed(int steps) {
        State state = now.copy();
        if (steps % 2 == 1) {
            state.subs.clear();
            for (Sub s : now.subs) state.subs.addAll(stretchesOf(now, s));
            if (state.subs.size() > 16) return null;
            state.sort();
        }
        if (steps / 2 % 2 == 1) merge(state);
        if (steps / 4 % 2 == 1) read(state);
        if (steps / 8 % 2 == 1) snap(state);
        if (steps / 16 % 2 == 1) keepGaps(state);
        return state;
    }

    int conform(int steps) {
        if (!in(steps, 1, 31)) return BAD;
        State state = conformed(steps);
        if (state == null) return FULL;
        record();
        now = state;
        return now.subs.size();
    }

    int ifConform(int steps, int what) {
        if (!in(steps, 1, 31) || !in(what, 0, 4)) return BAD;
        State state = conformed(steps);
        if (state == null) return FULL;
        int lengths = 0;
        int faulty = 0;
        int greatest = 0;
        for (int i = 0; i < state.subs.size(); i++) {
            lengths += state.subs.get(i).length();
            if (state.faults(i) != 0) faulty++;
            greatest = Math.max(greatest, state.subs.get(i).end);
        }
        int lost = 0;
        for (Sub s : now.subs) if (steps % 2 == 1 && stretchesOf(now, s).isEmpty()) lost++;
        return new int[] {state.subs.size(), lengths, faulty, greatest, lost}[what];
    }

    int stretches(int i) {
        return isSub(i) ? stretchesOf(now, now.subs.get(i)).size() : BAD;
    }

    int shown(int frame) {
        if (!in(frame, 0, 9999)) return BAD;
        int mask = 0;
        for (int i = 0; i < now.subs.size(); i++) {
            if (in(frame, now.subs.get(i).first, now.subs.get(i).end - 1)) mask += 1 << i;
        }
        return mask;
    }

    int faults(int fault) {
        if (!List.of(0, 1, 2, 4, 8, 16, 32).contains(fault)) return BAD;
        int sum = 0;
        for (int i = 0; i < now.subs.size(); i++) {
            int has = now.faults(i);
            if (fault == 0 ? has != 0 : (has & fault) != 0) sum++;
        }
        return sum;
    }

    int told(int what) {
        if (!in(what, 0, 11)) return BAD;
        if (what <= 4) return now.settings[what];
        int pairs = (int) now.subs.stream().filter(s -> s.parts.size() == 2).count();
        return new int[] {now.pieces.size(), now.cutLength(), now.shots.size(), now.subs.size(), pairs,
            buffer.length(), remembered.size()}[what - 5];
    }

    int undo() {
        if (remembered.isEmpty()) return STATE;
        now = remembered.removeLast();
        return remembered.size();
    }

    long digest() {
        List<Integer> values = new ArrayList<>();
        for (int what = 0; what <= 11; what++) values.add(told(what));
        for (int p = 0; p < now.pieces.size(); p++) for (int what = 0; what <= 2; what++) values.add(pieceAt(p, what));
        values.addAll(now.shots);
        for (int i = 0; i < now.subs.size(); i++) {
            for (int what = 0; what <= 6; what++) values.add(subtitle(i, what));
            values.add(stretches(i));
            for (int p = 0; p < now.subs.get(i).parts.size(); p++) {
                for (int what = 0; what <= 3; what++) values.add(part(i, p, what));
                for (char c : now.subs.get(i).parts.get(p).text.toCharArray()) values.add((int) c);
            }
        }
        for (int fault : new int[] {0, 1, 2, 4, 8, 16, 32}) values.add(faults(fault));
        for (int what = 0; what <= 4; what++) values.add(ifConform(31, what));
        long h = 18771;
        for (int v : values) h = 31 * h + v;
        return h;
    }
}

import java.util.Random;

/** Long runs of mixed calls, each answer held against the model's. The seeds are fixed. */
public final class ModelTest {
    /** What an object is promised for. */
    private static final int CALLS = 512;
    /** The buffer is emptied, and 40 bytes are typed. */
    private static final int LONGEST_STEP = 41;
    private static final int[] SCALES = {40, 120, 400, 1500, 10000};
    private static final String[] WORDS = {"and", "or", "but", "a", "I", "no.", "well,", "so:", "who?", "go!", "late",
        "under", "nothing", "butter", "order", "sandwiches", "incomprehensible"};

    private final Random random;
    private final int scale;
    private final CutConformer x = new CutConformer();
    private final Model m = new Model();
    private final StringBuilder story = new StringBuilder();
    private int calls;

    private ModelTest(int seed) {
        random = new Random(seed);
        scale = SCALES[seed % SCALES.length];
    }

    public static void main(String[] args) {
        Check check = new Check();
        int runs = args.length > 0 ? Integer.parseInt(args[0]) : 600;
        for (int seed = 0; seed < runs && check.wrong() < 5; seed++) {
            ModelTest run = new ModelTest(seed);
            boolean right = true;
            while (right && run.calls + LONGEST_STEP <= CALLS) right = run.agrees(run.next());
            if (!right) System.out.println("run " + seed + ":\n" + run.story);
            check.holds("run " + seed, right);
        }
        check.end("ModelTest");
    }

    private long got;
    private long want;

    private boolean agrees(String call) {
        story.append("  ").append(call).append(" = ").append(got);
        if (got != want) story.append(", due is ").append(want);
        story.append('\n');
        return got == want;
    }

    private String call(String text, long answer, long due) {
        calls++;
        got = answer;
        want = due;
        return text;
    }

    /** Mostly small, sometimes at an edge, sometimes out of range. */
    private int frame() {
        int kind = random.nextInt(40);
        if (kind == 0) return new int[] {-1, 0, 1, 9998, 9999, 10000, Integer.MAX_VALUE, Integer.MIN_VALUE}[random.nextInt(8)];
        return random.nextInt(scale);
    }

    private int number(int below) {
        int kind = random.nextInt(30);
        if (kind == 0) return new int[] {-1, below, below + 1, Integer.MAX_VALUE, Integer.MIN_VALUE}[random.nextInt(5)];
        return random.nextInt(Math.max(1, below));
    }

    private int someSubtitle() {
        return number(m.told(8));
    }

    private int length() {
        int kind = random.nextInt(12);
        if (kind == 0) return random.nextInt(5);
        if (kind == 1) return random.nextInt(scale) * 2;
        return 1 + random.nextInt(40);
    }

    private String next() {
        int kind = random.nextInt(100);
        if (kind < 12) return cuts(kind);
        if (kind < 50) return subtitles();
        if (kind < 62) return changes();
        if (kind < 92) return looks(kind % 10);
        return digest();
    }

    private String digest() {
        return call("digest()", x.digest(), m.digest());
    }

    private String cuts(int kind) {
        int frame = frame();
        int length = random.nextInt(3) == 0 ? number(5000) : random.nextInt(Math.max(2, scale / 3));
        boolean on = random.nextInt(4) != 0;
        int piece = number(m.told(5));
        if (kind < 4) return call("piece(" + frame + ", " + length + ")", x.piece(frame, length), m.piece(frame, length));
        if (kind < 6) return call("dropPiece(" + piece + ")", x.dropPiece(piece), m.dropPiece(piece));
        return call("shot(" + frame + ", " + on + ")", x.shot(frame, on), m.shot(frame, on));
    }

    private String typed(String text) {
        calls += text.length();
        for (char c : text.toCharArray()) {
            int answer = x.type(c);
            int due = m.type(c);
            if (answer != due) return call("type(" + (int) c + ")", answer, due);
        }
        return call("typed '" + text + "'", 0, 0);
    }

    private String subtitles() {
        int kind = random.nextInt(20);
        if (kind == 0) return call("clear()", x.clear(), m.clear());
        if (kind < 3) return typed("" + (char) (31 + random.nextInt(97)));
        if (kind < 6) return typed(m.told(10) == 0 ? word() : " " + word());
        if (kind < 8) {
            x.clear();
            m.clear();
            StringBuilder text = new StringBuilder(word());
            for (int k = random.nextInt(9); k > 0; k--) text.append(' ').append(word());
            return typed(text.substring(0, Math.min(40, text.length())).trim());
        }
        int first = frame();
        int end = random.nextInt(30) == 0 ? frame() : first + length();
        int i = someSubtitle();
        int speaker = number(4);
        if (kind < 15) return call("add(" + first + ", " + end + ", " + speaker + ")", x.add(first, end, speaker), m.add(first, end, speaker));
        if (kind < 18) return call("move(" + i + ", " + first + ", " + end + ")", x.move(i, first, end), m.move(i, first, end));
        return call("drop(" + i + ")", x.drop(i), m.drop(i));
    }

    private String word() {
        return WORDS[random.nextInt(WORDS.length)];
    }

    private String changes() {
        int kind = random.nextInt(10);
        int what = number(5);
        int v = number(new int[] {21, 60, 20, 20, 41}[what < 0 || what > 4 ? 0 : what]);
        int steps = number(32);
        if (kind < 2) return call("set(" + what + ", " + v + ")", x.set(what, v), m.set(what, v));
        if (kind < 5) return call("undo()", x.undo(), m.undo());
        return call("conform(" + steps + ")", x.conform(steps), m.conform(steps));
    }

    private String looks(int kind) {
        int i = someSubtitle();
        int k = number(12);
        int what = number(7);
        int frame = frame();
        int steps = number(32);
        switch (kind) {
            case 0: return call("pieceAt(" + k + ", " + what + ")", x.pieceAt(k, what), m.pieceAt(k, what));
            case 1: return call("shotAt(" + k + ")", x.shotAt(k), m.shotAt(k));
            case 2: return call("toNew(" + frame + ", " + k / 3 + ")", x.toNew(frame, k / 3), m.toNew(frame, k / 3));
            case 3: return call("toOld(" + frame + ")", x.toOld(frame), m.toOld(frame));
            case 4: return call("subtitle(" + i + ", " + what + ")", x.subtitle(i, what), m.subtitle(i, what));
            case 5: return parts(i);
            case 6: return call("ifConform(" + steps + ", " + what + ")", x.ifConform(steps, what), m.ifConform(steps, what));
            case 7: return call("stretches(" + i + ")", x.stretches(i), m.stretches(i));
            case 8: return call("shown(" + frame + ")", x.shown(frame), m.shown(frame));
            default: return wholes(k);
        }
    }

    private String parts(int i) {
        int part = number(2);
        int what = random.nextInt(4) == 0 ? number(52) : number(4);
        return call("part(" + i + ", " + part + ", " + what + ")", x.part(i, part, what), m.part(i, part, what));
    }

    private String wholes(int k) {
        int fault = random.nextInt(3) == 0 ? number(65) : 1 << random.nextInt(7);
        if (random.nextBoolean()) return call("faults(" + fault + ")", x.faults(fault), m.faults(fault));
        return call("told(" + k + ")", x.told(k), m.told(k));
    }
}

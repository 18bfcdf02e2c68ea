/** Objects to begin with. */
final class Make {
    static final String FORTY = "forty bytes, as many as a text can have.";

    private Make() {
    }

    /** Pieces of these first frames and lengths, and a text of one letter. */
    static CutConformer cut(int... pieces) {
        CutConformer x = new CutConformer();
        x.type('a');
        for (int k = 0; k < pieces.length; k += 2) x.piece(pieces[k], pieces[k + 1]);
        return x;
    }

    /** A cut of so many frames, 5000 at most, and subtitles of one letter with these first frames and ends; all of speaker 0. */
    static CutConformer timed(int frames, int... times) {
        CutConformer x = frames == 0 ? cut() : cut(0, frames);
        for (int k = 0; k < times.length; k += 2) x.add(times[k], times[k + 1], 0);
        return x;
    }

    /** Subtitles of one letter: first frame, end and speaker of each. */
    static CutConformer spoken(int... subtitles) {
        CutConformer x = cut();
        for (int k = 0; k < subtitles.length; k += 3) x.add(subtitles[k], subtitles[k + 1], subtitles[k + 2]);
        return x;
    }

    /** As much of everything as there can be, in 105 calls at most. */
    static CutConformer most(String text) {
        CutConformer x = new CutConformer();
        for (int p = 0; p < 9; p++) x.piece(0, 1000);
        x.piece(0, 999);
        for (int k = 1; k <= 20; k++) x.shot(100 * k, true);
        Check.write(x, text);
        for (int i = 0; i < 16; i++) x.add(10 * i, 10 * i + 5, i % 4);
        return x;
    }
}

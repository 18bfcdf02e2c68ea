/** Counts the answers of a test, and prints those that are not as due. */
final class Check {
    private int right;
    private int wrong;
    private int sentences;
    private int beforeSentence;
    private String sentence = "";

    /** The sentence of the document that the answers from here on are held against. */
    void sentence(String place, String words) {
        endSentence();
        sentence = place + ": " + words;
        sentences++;
    }

    private void endSentence() {
        boolean unproved = sentences > 0 && right + wrong == beforeSentence;
        if (unproved) due("answers to '" + sentence + "'", 0, 1);
        beforeSentence = right + wrong;
        sentence = "";
    }

    void due(String call, long got, long want) {
        if (got == want) {
            right++;
            return;
        }
        wrong++;
        if (!sentence.isEmpty()) System.out.println(sentence);
        System.out.println("  " + call + " answered " + got + ", due is " + want);
    }

    void holds(String what, boolean so) {
        due(what, so ? 1 : 0, 1);
    }

    int wrong() {
        return wrong;
    }

    void end(String test) {
        endSentence();
        if (sentences > 0) System.out.print(sentences + " sentences in ");
        System.out.println(test + ": " + right + " as due, " + wrong + " not");
        if (wrong != 0 || right == 0) System.exit(1);
    }

    /** Types a text into the empty buffer. */
    static void write(CutConformer x, String text) {
        x.clear();
        for (int i = 0; i < text.length(); i++) x.type(text.charAt(i));
    }

    static int add(CutConformer x, int first, int end, int speaker, String text) {
        write(x, text);
        return x.add(first, end, speaker);
    }

    /** The numbers, first frames and ends of all subtitles, as "10-30 15-35". */
    static String times(CutConformer x) {
        StringBuilder all = new StringBuilder();
        for (int i = 0; i < x.told(8); i++) {
            if (i > 0) all.append(' ');
            all.append(x.subtitle(i, 0)).append('-').append(x.subtitle(i, 1));
        }
        return all.toString();
    }

    static String text(CutConformer x, int i, int part) {
        StringBuilder all = new StringBuilder();
        for (int b = 0; b < x.part(i, part, 1); b++) all.append((char) x.part(i, part, 10 + b));
        return all.toString();
    }

    /** Where a text is broken in this width, and the rank of that blank. */
    void line(int width, String text, int firstLine, int rank) {
        CutConformer x = new CutConformer();
        x.set(4, width);
        add(x, 0, 9, 0, text);
        due("first line of '" + text + "' in " + width, x.part(0, 0, 2), firstLine);
        due("rank in '" + text + "' in " + width, x.part(0, 0, 3), rank);
    }

    void times(String when, CutConformer x, String want) {
        String got = times(x);
        if (!got.equals(want)) System.out.println(when + ": " + got + ", due is " + want);
        holds("times " + when, got.equals(want));
    }
}

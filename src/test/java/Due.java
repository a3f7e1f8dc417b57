/** Counts and prints the answers that are not as due. */
final class Due {
    private int wrong;
    private int asked;
    private String sentence = "";
    private int askedBefore;

    /** The answers from here on are asked for these words of the document; each sentence must ask for some. */
    void sentence(String words) {
        endSentence();
        sentence = words;
    }

    private void endSentence() {
        if (!sentence.isEmpty() && asked == askedBefore) {
            wrong++;
            System.out.println("[" + sentence + "] asked for nothing");
        }
        askedBefore = asked;
    }

    void is(String call, long got, long want) {
        note(call, got == want, String.valueOf(got), String.valueOf(want));
    }

    /** Compares the bits, so that -0 is not taken for 0. */
    void point(String call, double got, double want) {
        note(call, Double.doubleToLongBits(got) == Double.doubleToLongBits(want),
                String.valueOf(got), String.valueOf(want));
    }

    void text(String call, String got, String want) {
        note(call, got.equals(want), got, want);
    }

    private void note(String call, boolean right, String got, String want) {
        asked++;
        if (!right) {
            wrong++;
            String of = sentence.isEmpty() ? "" : "[" + sentence + "] ";
            System.out.println(of + call + " answered " + got + ", due is " + want);
        }
    }

    void end() {
        endSentence();
        System.out.println(asked + " answers looked at, " + wrong + " not as due");
        if (wrong != 0 || asked == 0) {
            System.exit(1);
        }
    }
}

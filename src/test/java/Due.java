/** Counts the answers of one test class and prints those that are not as due. */
final class Due {
    private int looked;
    private int wrong;
    private String sentence = "";
    private int lookedBefore;

    /** Begins the test of a sentence of the document; what is printed from here on tells it. */
    void sentence(String words) {
        endSentence();
        sentence = words;
        lookedBefore = looked;
    }

    private void endSentence() {
        if (!sentence.isEmpty() && looked == lookedBefore) {
            wrong++;
            System.out.println("no answer is looked at for \"" + sentence + "\"");
        }
    }

    void is(String call, long got, long want) {
        looked++;
        if (got != want) {
            wrong++;
            System.out.println(place() + call + " answered " + got + ", due is " + want);
        }
    }

    private String place() {
        return sentence.isEmpty() ? "" : "\"" + sentence + "\": ";
    }

    void same(String call, Object got, Object want) {
        looked++;
        if (!got.equals(want)) {
            wrong++;
            System.out.println(place() + call + " answered\n  " + got + "\ndue is\n  " + want);
        }
    }

    boolean hasWrong() {
        return wrong > 0;
    }

    void end() {
        endSentence();
        System.out.println(looked + " answers, " + wrong + " not as due");
        if (wrong > 0 || looked == 0) {
            System.exit(1);
        }
    }
}

/** Counts the answers of one test that are not as due. */
final class Checks {
    private static int asked = 0;
    private static int wrong = 0;

    private Checks() {
    }

    static void due(String call, long got, long want) {
        asked++;
        if (got != want) {
            wrong++;
            System.out.println(call + " answered " + got + ", due is " + want);
        }
    }

    static void holds(String what, boolean holds) {
        asked++;
        if (!holds) {
            wrong++;
            System.out.println("does not hold: " + what);
        }
    }

    /** Gives the text's letters and makes a hall of them. */
    static int tell(HallOfClaims x, String text) {
        for (int i = 0; i < text.length(); i++) {
            due("letter of " + text, x.letter(text.charAt(i)), i + 1);
        }
        return x.hall();
    }

    static HallOfClaims told(String text) {
        HallOfClaims x = new HallOfClaims();
        int statements = (int) text.chars().filter(c -> c == ';').count();
        due("hall of " + text, tell(x, text), statements);
        return x;
    }

    /** Told in several halls, as one has room for 96 letters only. */
    static HallOfClaims told(String text, String more) {
        HallOfClaims x = told(text);
        due("hall of " + more, tell(x, more), (int) more.chars().filter(c -> c == ';').count());
        return x;
    }

    static void end() {
        System.out.println(wrong == 0 ? asked + " answers are as due" : wrong + " of " + asked + " answers are not as due");
        if (wrong != 0 || asked == 0) {
            System.exit(1);
        }
    }
}

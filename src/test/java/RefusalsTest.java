import java.lang.reflect.Method;
import java.util.ArrayList;
import java.util.Arrays;
import java.util.List;

/**
 * Each call that is refused: the first number that fits is answered, that one REFUSAL is counted,
 * and a hall to which it came is in all else like its twin to which it didn't. Calls that only
 * look, or that are no REFUSAL though they answer below 0, are held against a twin likewise.
 */
public final class RefusalsTest {
    private static final int FAR_OUT = Integer.MAX_VALUE;
    private static final int FAR_BELOW = Integer.MIN_VALUE;
    private static final long FAR = 4000000000000000000L;

    private enum State { EMPTY, MIDDLE, FULL }

    private RefusalsTest() {
    }

    public static void main(String[] args) {
        letters();
        newClaims();
        claimsThatArent();
        pairs();
        whats();
        belowAndAbove();
        several();
        whatIsNoRefusal();
        looks();
        Checks.end();
    }

    private static void letters() {
        for (State state : State.values()) {
            refused(state, -4, "letter", -1);
            refused(state, -4, "letter", FAR_BELOW);
            refused(state, -6, "letter", 256);
            refused(state, -6, "letter", FAR_OUT);
            refused(state, -4, "row", -1);
            refused(state, -4, "row", FAR_BELOW);
            refused(state, -6, "row", 10);
            refused(state, -6, "row", FAR_OUT);
        }
        refused(State.FULL, -6, "letter", 0);
        refused(State.FULL, -6, "letter", 255);
        refused(State.FULL, -6, "row", 0);
        refused(State.FULL, -6, "row", 9);
    }

    private static void newClaims() {
        for (State state : State.values()) {
            refused(state, -2, "claims", 6, 0, 0);
            refused(state, -2, "claims", -1, 0, 0);
            refused(state, -2, "claims", FAR_OUT, -1, 10);
            refused(state, -2, "claims", FAR_BELOW, 10, -1);
            refused(state, -4, "claims", 0, -1, 0);
            refused(state, -4, "claims", 0, 0, -1);
            refused(state, -4, "claims", 5, -1, 10);
            refused(state, -4, "claims", 5, 10, -1);
            refused(state, -6, "claims", 0, 10, 0);
            refused(state, -6, "claims", 0, 0, 10);
            refused(state, -6, "claims", 0, FAR_OUT, FAR_OUT);
        }
        refused(State.FULL, -6, "claims", 0, 0, 0);
        refused(State.FULL, -6, "claims", 5, 9, 9);
    }

    /** Of all that a call may be refused for, that there is no such claim is told first. */
    private static void claimsThatArent() {
        for (State state : State.values()) {
            int[] nobodies = {-1, FAR_BELOW, sizeOf(state), sizeOf(state) + 1, FAR_OUT};
            for (int nobody : nobodies) {
                refused(state, -1, "turns", nobody);
                refused(state, -1, "label", nobody);
                refused(state, -1, "without", nobody);
                refused(state, -1, "kind", nobody, 0, 0);
                refused(state, -1, "kind", nobody, 6, -1);
                refused(state, -1, "claim", nobody, 0);
                refused(state, -1, "claim", nobody, 10);
                refused(state, -1, "among", 0, nobody, 0);
                refused(state, -1, "among", 5, nobody, 2);
                refused(state, -2, "among", 6, nobody, 2);
                refused(state, -1, "game", nobody, 0);
                refused(state, -1, "game", nobody, 2);
                refused(state, -1, "changes", nobody, 1);
                refused(state, -1, "changes", nobody, -1);
                refused(state, -1, "whatIs", nobody, 0);
                refused(state, -1, "whatIs", nobody, 2);
                refused(state, -1, "missing", nobody, 2, 0);
                refused(state, -1, "missing", nobody, 1, 2);
                refused(state, -1, "missing", nobody, 21, -1);
                for (String call : new String[] {"attacks", "supports", "answer"}) {
                    refused(state, -1, call, nobody, 0);
                    refused(state, -1, call, 0, nobody);
                    refused(state, -1, call, nobody, nobody);
                }
            }
        }
    }

    private static void pairs() {
        for (int claim = 0; claim < 4; claim++) {
            refused(State.MIDDLE, -3, "attacks", claim, claim);
            refused(State.MIDDLE, -3, "supports", claim, claim);
            refused(State.MIDDLE, -3, "answer", claim, 3);
            refused(State.MIDDLE, -3, "answer", 3, claim);
        }
        refused(State.MIDDLE, -3, "answer", 0, 0);
        refused(State.MIDDLE, -3, "answer", 0, 1);
        refused(State.MIDDLE, -3, "game", 3, 0);
        refused(State.MIDDLE, -3, "game", 3, 2);
        refused(State.MIDDLE, -3, "changes", 3, 1);
        refused(State.MIDDLE, -3, "changes", 3, -1);
        refused(State.EMPTY, -3, "on");
    }

    private static void whats() {
        int[] wrong = {-1, 2, 3, FAR_OUT, FAR_BELOW};
        for (int what : wrong) {
            refused(State.MIDDLE, -2, "among", 0, 0, what);
            refused(State.MIDDLE, -2, "game", 0, what);
            refused(State.MIDDLE, -2, "changes", 0, what);
            refused(State.MIDDLE, -2, "spare", what);
            refused(State.EMPTY, -2, "spare", what);
            refused(State.MIDDLE, -2, "missing", 0, 2, what);
            refused(State.MIDDLE, -2, "missing", 3, 20, what);
            refused(State.MIDDLE, -2, "whatIs", 0, what);
            refused(State.MIDDLE, -2, "lots", 1, 0, what);
            refused(State.EMPTY, -2, "lots", 20, 0, what);
        }
        for (int what : new int[] {-1, 10, 11, FAR_OUT, FAR_BELOW}) {
            refused(State.MIDDLE, -2, "claim", 3, what);
        }
        for (int what : new int[] {-1, 4, 5, FAR_OUT, FAR_BELOW}) {
            refused(State.MIDDLE, -2, "speakers", 1, what);
        }
        for (int wrongOne : new int[] {-1, 6, 7, 9, FAR_OUT, FAR_BELOW}) {
            refused(State.MIDDLE, -2, "kind", 0, wrongOne, 0);
            refused(State.MIDDLE, -2, "kind", 0, wrongOne, -1);
            refused(State.MIDDLE, -2, "kind", 0, wrongOne, 10);
            for (State state : State.values()) {
                refused(state, -2, "sets", wrongOne, -1);
                refused(state, -2, "sets", wrongOne, -2);
                refused(state, -2, "among", wrongOne, 0, 0);
            }
        }
    }

    private static void belowAndAbove() {
        refused(State.MIDDLE, -4, "kind", 0, 0, -1);
        refused(State.MIDDLE, -4, "kind", 3, 5, FAR_BELOW);
        refused(State.MIDDLE, -6, "kind", 0, 0, 10);
        refused(State.MIDDLE, -6, "kind", 3, 5, FAR_OUT);
        for (State state : State.values()) {
            refused(state, -4, "mode", -1);
            refused(state, -4, "mode", FAR_BELOW);
            refused(state, -6, "mode", 4);
            refused(state, -6, "mode", FAR_OUT);
            refused(state, -4, "turn", -2);
            refused(state, -4, "turn", FAR_BELOW);
            for (int sort = 0; sort < 6; sort++) {
                refused(state, -4, "sets", sort, -2);
                refused(state, -4, "sets", sort, FAR_BELOW);
            }
            refused(state, -4, "lots", 0, 0, 0);
            refused(state, -4, "lots", FAR_BELOW, 0, 2);
            refused(state, -6, "lots", 21, 0, 1);
            refused(state, -6, "lots", FAR_OUT, 0, 2);
        }
        refused(State.MIDDLE, -4, "missing", 0, 1, 0);
        refused(State.MIDDLE, -4, "missing", 3, FAR_BELOW, 2);
        refused(State.MIDDLE, -6, "missing", 0, 21, 1);
        refused(State.MIDDLE, -6, "missing", 3, FAR_OUT, -1);
    }

    private static void several() {
        for (int what : new int[] {0, 3, -1, 4}) {
            refused(State.EMPTY, -1, "speakers", 0, what);
            refused(State.MIDDLE, -1, "speakers", 3, what);
            refused(State.MIDDLE, -1, "speakers", FAR_OUT, what);
            refused(State.MIDDLE, -1, "speakers", -2, what);
            refused(State.MIDDLE, -1, "speakers", FAR_BELOW, what);
        }
        HallOfClaims x = made(State.MIDDLE);
        for (int i = 1; i <= 100; i++) {
            x.label(9);
            x.attacks(0, 0);
            Checks.due("REFUSALS -1, " + i, x.count(11), i);
            Checks.due("REFUSALS -3, " + i, x.count(13), i);
        }
    }

    /** What answers below 0 without being refused: nothing of this is counted. */
    private static void whatIsNoRefusal() {
        for (State state : State.values()) {
            for (int what : new int[] {-1, 7, 8, 9, 10, 17, 18, FAR_OUT, FAR_BELOW}) {
                like(state, -9, "count", what);
            }
            Checks.due("REFUSALS -5", made(state).count(15), 0);
            like(state, -9, "turn", 8);
            like(state, -9, "turn", FAR_OUT);
            like(state, -9, "sets", 0, 256);
            like(state, -9, "sets", 5, FAR_OUT);
            for (int what : new int[] {-1, 0, 3, 4, FAR_OUT, FAR_BELOW}) {
                like(state, speakersOf(state), "speakers", -1, what);
            }
        }
        like(State.MIDDLE, -9, "answer", 1, 0);
        like(State.MIDDLE, -9, "game", 1, 0);
    }

    private static void looks() {
        for (State state : State.values()) {
            HallOfClaims twin = made(state);
            HallOfClaims x = made(state);
            look(x, sizeOf(state));
            Checks.holds("looks change nothing in " + state, Arrays.equals(all(x, state), all(twin, state)));
        }
    }

    private static void look(HallOfClaims x, int size) {
        x.ideal();
        for (int i = 0; i < 2; i++) {
            x.spare(i);
            x.lots(2, i, i);
        }
        for (int i = -1; i < 4; i++) {
            x.turn(i);
            x.sets(i & 3, i);
        }
        for (int claim = 0; claim < size; claim++) {
            x.label(claim);
            x.among(3, claim, 1);
            x.without(claim);
            x.missing(claim, 3, 0);
            x.whatIs(claim, 0);
            x.whatIs(claim, 1);
            for (int what = 0; what < 10; what++) {
                x.claim(claim, what);
            }
            if (x.claim(claim, 3) == 1) {
                x.game(claim, 0);
                x.game(claim, 1);
                x.changes(claim, 0);
                x.changes(claim, 1);
            }
        }
    }

    private static int sizeOf(State state) {
        return switch (state) {
            case EMPTY -> 0;
            case MIDDLE -> 4;
            case FULL -> 8;
        };
    }

    private static int speakersOf(State state) {
        return switch (state) {
            case EMPTY -> 0;
            case MIDDLE -> 3;
            case FULL -> 8;
        };
    }

    /** In the middle one, d isn't heard; its letters, row and image are such that a change shows. */
    private static HallOfClaims made(State state) {
        if (state == State.EMPTY) {
            return new HallOfClaims();
        }
        if (state == State.MIDDLE) {
            HallOfClaims x = Checks.told("*012;*123;*035;*002;a>b>c;b+c;d>a;");
            x.image();
            x.turns(3);
            x.mode(2);
            told(x, "a>c;*");
            x.row(1);
            x.row(0);
            return x;
        }
        HallOfClaims x = Checks.told("*010;*121;*232;*343;*454;*565;*076;*087;a>b>c>d>e>f;g>h;h+a;m1;");
        x.image();
        x.attacks(0, 7);
        told(x, "a!;b:00;a+h;m0;".repeat(7).substring(0, 96));
        for (int i = 0; i < 12; i++) {
            x.row(i % 3);
        }
        return x;
    }

    private static void told(HallOfClaims x, String text) {
        for (int i = 0; i < text.length(); i++) {
            Checks.due("letter of " + text, x.letter(text.charAt(i)), i + 1);
        }
    }

    private static void refused(State state, int due, String name, int... numbers) {
        HallOfClaims x = made(state);
        int[] before = refusals(x);
        long far = name.equals("missing") ? FAR - due : due;
        String text = state + ": " + name + Arrays.toString(numbers);
        Checks.due(text, call(x, name, numbers), far);
        int[] behind = refusals(x);
        before[-due - 1]++;
        Checks.holds(text + ", that one counted", Arrays.equals(before, behind));
        Checks.holds(text + ", nothing changed", Arrays.equals(all(x, state), all(made(state), state)));
    }

    private static void like(State state, int due, String name, int... numbers) {
        HallOfClaims x = made(state);
        int[] before = refusals(x);
        String text = state + ": " + name + Arrays.toString(numbers);
        Checks.due(text, call(x, name, numbers), due);
        Checks.holds(text + ", nothing counted", Arrays.equals(before, refusals(x)));
        Checks.holds(text + ", nothing changed", Arrays.equals(all(x, state), all(made(state), state)));
    }

    private static int[] refusals(HallOfClaims x) {
        int[] refusals = new int[6];
        for (int i = 0; i < refusals.length; i++) {
            refusals[i] = x.count(11 + i);
        }
        return refusals;
    }

    /** All but the REFUSALS, the letters, ROW and image by what they come to. */
    private static int[] all(HallOfClaims x, State state) {
        List<Integer> all = new ArrayList<>();
        addNow(all, x);
        if (sizeOf(state) > 0) {
            all.add(x.whatIs(0, 0));
            all.add(x.whatIs(0, 1));
        }
        all.add(x.judge());
        all.add(x.hall());
        addNow(all, x);
        if (state != State.EMPTY) {
            all.add(x.on());
            addNow(all, x);
        }
        return all.stream().mapToInt(i -> i).toArray();
    }

    private static void addNow(List<Integer> all, HallOfClaims x) {
        for (int what = 0; what <= 6; what++) {
            all.add(x.count(what));
        }
        for (int claim = 0; claim < x.count(0); claim++) {
            for (int what = 0; what < 10; what++) {
                all.add(x.claim(claim, what));
            }
        }
    }

    private static long call(HallOfClaims x, String name, int... numbers) {
        Class<?>[] types = new Class<?>[numbers.length];
        Object[] arguments = new Object[numbers.length];
        for (int i = 0; i < numbers.length; i++) {
            types[i] = int.class;
            arguments[i] = numbers[i];
        }
        try {
            Method method = HallOfClaims.class.getMethod(name, types);
            return ((Number) method.invoke(x, arguments)).longValue();
        } catch (ReflectiveOperationException e) {
            throw new IllegalStateException(name + Arrays.toString(numbers), e);
        }
    }
}

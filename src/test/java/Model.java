import java.math.BigInteger;
import java.util.ArrayList;
import java.util.Comparator;
import java.util.HashMap;
import java.util.List;
import java.util.Map;
import java.util.Set;
import java.util.TreeMap;
import java.util.TreeSet;
import java.util.regex.Pattern;

/**
 * The document once more, word by word, with sets and lists of the Java library and no care for
 * speed or room: what the class answers is held against it. It shares no code with the class.
 */
final class Model {
    record Pair(int from, int to) {
    }

    static final class Claim {
        int kind;
        int figure;
        int speaker;
        boolean heard = true;

        Claim(int kind, int figure, int speaker) {
            this.kind = kind;
            this.figure = figure;
            this.speaker = speaker;
        }

        Claim copy() {
            Claim copy = new Claim(kind, figure, speaker);
            copy.heard = heard;
            return copy;
        }
    }

    static final class State {
        final List<Claim> claims = new ArrayList<>();
        final Set<Pair> attacks = new TreeSet<>(BY_NUMBERS);
        final Set<Pair> supports = new TreeSet<>(BY_NUMBERS);
        int mode = 3;

        State copy() {
            State copy = new State();
            for (Claim claim : claims) {
                copy.claims.add(claim.copy());
            }
            copy.attacks.addAll(attacks);
            copy.supports.addAll(supports);
            copy.mode = mode;
            return copy;
        }

        boolean heard(int c) {
            return claims.get(c).heard;
        }

        Set<Integer> heardOnes() {
            Set<Integer> heard = new TreeSet<>();
            for (int c = 0; c < claims.size(); c++) {
                if (heard(c)) {
                    heard.add(c);
                }
            }
            return heard;
        }

        boolean hits(int a, int b) {
            if (!heard(a) || !heard(b)) {
                return false;
            }
            Claim from = claims.get(a);
            Claim to = claims.get(b);
            if (a == b) {
                return from.kind == 4;
            }
            if (!attacks.contains(new Pair(a, b))) {
                return false;
            }
            boolean letsHit = switch (from.kind) {
                case 1, 4 -> !(to.figure > from.figure);
                case 5 -> false;
                default -> true;
            };
            boolean letsBeHit = switch (to.kind) {
                case 2 -> !(from.figure < to.figure);
                case 3 -> !(from.figure < to.figure) && from.kind == 3;
                default -> true;
            };
            return letsHit && letsBeHit;
        }

        boolean leads(int a, int b) {
            if (!heard(a)) {
                return false;
            }
            Set<Integer> reached = new TreeSet<>();
            List<Integer> open = new ArrayList<>(List.of(a));
            while (!open.isEmpty()) {
                int last = open.remove(open.size() - 1);
                for (int c : heardOnes()) {
                    if (supports.contains(new Pair(last, c)) && reached.add(c)) {
                        open.add(c);
                    }
                }
            }
            return reached.contains(b);
        }

        boolean defeats(int a, int c) {
            if (hits(a, c)) {
                return true;
            }
            for (int b : heardOnes()) {
                if ((mode == 1 || mode == 3) && leads(a, b) && hits(b, c)) {
                    return true;
                }
                if ((mode == 2 || mode == 3) && hits(a, b) && leads(b, c)) {
                    return true;
                }
            }
            return false;
        }
    }

    /** A state looked at, with what defeats what found once. */
    static final class Look {
        final State state;
        final Set<Integer> heard;
        final Map<Integer, Set<Integer>> defeaters = new TreeMap<>();
        final List<Integer> in = new ArrayList<>();
        final Set<Integer> out = new TreeSet<>();

        Look(State state) {
            this.state = state;
            heard = state.heardOnes();
            for (int c : heard) {
                Set<Integer> of = new TreeSet<>();
                for (int a : heard) {
                    if (state.defeats(a, c)) {
                        of.add(a);
                    }
                }
                defeaters.put(c, of);
            }
            while (true) {
                List<Integer> ready = new ArrayList<>();
                for (int c : heard) {
                    if (!in.contains(c) && !out.contains(c) && out.containsAll(defeaters.get(c))) {
                        ready.add(c);
                    }
                }
                if (ready.isEmpty()) {
                    break;
                }
                ready.sort(Comparator.comparingInt((Integer c) -> -state.claims.get(c).figure).thenComparingInt(c -> c));
                int next = ready.get(0);
                in.add(next);
                for (int c : heard) {
                    if (defeaters.get(c).contains(next)) {
                        out.add(c);
                    }
                }
            }
        }

        int label(int c) {
            if (!state.heard(c)) {
                return 3;
            }
            return in.contains(c) ? 1 : out.contains(c) ? 0 : 2;
        }

        boolean someDefeats(Set<Integer> set, int c) {
            return set.stream().anyMatch(a -> defeaters.get(c).contains(a));
        }

        boolean free(Set<Integer> set) {
            return set.stream().noneMatch(c -> someDefeats(set, c));
        }

        boolean admissible(Set<Integer> set) {
            return free(set) && set.stream().allMatch(c -> defended(set, c));
        }

        boolean defended(Set<Integer> set, int c) {
            return defeaters.get(c).stream().allMatch(a -> someDefeats(set, a));
        }

        boolean complete(Set<Integer> set) {
            return admissible(set) && heard.stream().allMatch(c -> !defended(set, c) || set.contains(c));
        }

        boolean stable(Set<Integer> set) {
            return free(set) && heard.stream().allMatch(c -> set.contains(c) || someDefeats(set, c));
        }

        Set<Integer> range(Set<Integer> set) {
            Set<Integer> range = new TreeSet<>(set);
            for (int c : heard) {
                if (someDefeats(set, c)) {
                    range.add(c);
                }
            }
            return range;
        }

        List<Set<Integer>> all() {
            List<Set<Integer>> all = new ArrayList<>();
            all.add(new TreeSet<>());
            for (int c : heard) {
                for (Set<Integer> old : new ArrayList<>(all)) {
                    Set<Integer> more = new TreeSet<>(old);
                    more.add(c);
                    all.add(more);
                }
            }
            return all;
        }

        List<Set<Integer>> sort(int sort) {
            List<Set<Integer>> admissible = all().stream().filter(this::admissible).toList();
            List<Set<Integer>> complete = admissible.stream().filter(this::complete).toList();
            List<Set<Integer>> found = new ArrayList<>(switch (sort) {
                case 0 -> all().stream().filter(this::free).toList();
                case 1 -> admissible;
                case 2 -> complete;
                case 3 -> admissible.stream().filter(s -> admissible.stream().noneMatch(t -> more(t, s))).toList();
                case 4 -> all().stream().filter(this::stable).toList();
                default -> complete.stream()
                        .filter(s -> complete.stream().noneMatch(t -> more(range(t), range(s)))).toList();
            });
            found.sort(Comparator.comparingInt((Set<Integer> s) -> -s.size()).thenComparingInt(Model::bits));
            return found;
        }

        static boolean more(Set<Integer> t, Set<Integer> s) {
            return t.containsAll(s) && t.size() > s.size();
        }

        int ideal() {
            List<Set<Integer>> preferred = sort(3);
            for (Set<Integer> set : sort(1)) {
                if (preferred.stream().allMatch(p -> p.containsAll(set))) {
                    return bits(set);
                }
            }
            return 0;
        }
    }

    /** The game of one claim, played out. */
    static final class Play {
        final Look look;
        private final Map<String, Integer> depths = new HashMap<>();
        private final Map<String, BigInteger> trees = new HashMap<>();

        Play(Look look) {
            this.look = look;
        }

        /** How much is said from PRO's last on, or 0. */
        int depth(Set<Integer> said, int last) {
            String key = said + "/" + last;
            if (!depths.containsKey(key)) {
                int most = 1;
                for (int con : look.defeaters.get(last)) {
                    int answer = answer(said, con);
                    if (answer < 0) {
                        most = 0;
                        break;
                    }
                    most = Math.max(most, 2 + depth(with(said, answer), answer));
                }
                depths.put(key, most);
            }
            return depths.get(key);
        }

        int answer(Set<Integer> said, int con) {
            int best = -1;
            int least = Integer.MAX_VALUE;
            for (int pro : look.defeaters.get(con)) {
                if (!said.contains(pro)) {
                    int depth = depth(with(said, pro), pro);
                    if (depth > 0 && depth < least) {
                        best = pro;
                        least = depth;
                    }
                }
            }
            return best;
        }

        BigInteger trees(Set<Integer> said, int last) {
            String key = said + "/" + last;
            if (!trees.containsKey(key)) {
                BigInteger product = BigInteger.ONE;
                for (int con : look.defeaters.get(last)) {
                    BigInteger sum = BigInteger.ZERO;
                    for (int pro : look.defeaters.get(con)) {
                        if (!said.contains(pro)) {
                            sum = sum.add(trees(with(said, pro), pro));
                        }
                    }
                    product = product.multiply(sum);
                }
                trees.put(key, product);
            }
            return trees.get(key);
        }

        static Set<Integer> with(Set<Integer> said, int more) {
            Set<Integer> with = new TreeSet<>(said);
            with.add(more);
            return with;
        }
    }

    private static final Comparator<Pair> BY_NUMBERS = Comparator.comparingInt(Pair::from).thenComparingInt(Pair::to);
    private static final String ONE = "[a-ln-z]";
    private static final Pattern WHOLE = Pattern.compile(("(?:(?:\\*[0-9]{3}|C:[0-9]{2}|C!|C(?:[>+]C)+|m[0-9]);)+").replace("C", ONE));
    private static final String[] ENDINGS = {"", ";", "0;", "00;", "000;", "a;", "!;", "*000;"};

    private State state = new State();
    private State image = null;
    private final List<Integer> row = new ArrayList<>();
    private final StringBuilder letters = new StringBuilder();
    private final Map<Integer, Integer> refusals = new TreeMap<>();

    static int bits(Iterable<Integer> set) {
        int bits = 0;
        for (int c : set) {
            bits += 1 << c;
        }
        return bits;
    }

    private int refuse(int number) {
        refusals.merge(number, 1, Integer::sum);
        return number;
    }

    private boolean nobody(int c) {
        return c < 0 || c >= state.claims.size();
    }

    private static boolean outside(int v, int least, int greatest) {
        return v < least || v > greatest;
    }

    public int letter(int c) {
        if (c < 0) {
            return refuse(-4);
        }
        if (c > 255 || letters.length() == 96) {
            return refuse(-6);
        }
        letters.append((char) c);
        return letters.length();
    }

    public int hall() {
        String text = letters.toString();
        letters.setLength(0);
        if (!WHOLE.matcher(text).matches()) {
            for (int i = 0; i < text.length(); i++) {
                if (!canGoOn(text.substring(0, i + 1))) {
                    return -1000 - i;
                }
            }
            return -1000 - text.length();
        }
        State draft = state.copy();
        int place = 0;
        int statements = 0;
        for (String statement : text.split(";")) {
            if (!come(draft, statement)) {
                return -2000 - place;
            }
            place += statement.length() + 1;
            statements++;
        }
        state = draft;
        return statements;
    }

    private static boolean canGoOn(String text) {
        for (String ending : ENDINGS) {
            if (WHOLE.matcher(text + ending).matches()) {
                return true;
            }
        }
        return false;
    }

    private static boolean come(State draft, String s) {
        char first = s.charAt(0);
        if (first == '*') {
            if (s.charAt(1) > '5' || draft.claims.size() == 8) {
                return false;
            }
            draft.claims.add(new Claim(s.charAt(1) - '0', s.charAt(2) - '0', s.charAt(3) - '0'));
            return true;
        }
        if (first == 'm') {
            draft.mode = s.charAt(1) - '0';
            return draft.mode < 4;
        }
        int claim = first - 'a';
        if (claim >= draft.claims.size()) {
            return false;
        }
        if (s.charAt(1) == ':') {
            draft.claims.get(claim).kind = s.charAt(2) - '0';
            draft.claims.get(claim).figure = s.charAt(3) - '0';
            return s.charAt(2) < '6';
        }
        if (s.charAt(1) == '!') {
            draft.claims.get(claim).heard = !draft.claims.get(claim).heard;
            return true;
        }
        for (int i = 2; i < s.length(); i += 2) {
            int to = s.charAt(i) - 'a';
            int from = s.charAt(i - 2) - 'a';
            if (to >= draft.claims.size() || from == to) {
                return false;
            }
            (s.charAt(i - 1) == '>' ? draft.attacks : draft.supports).add(new Pair(from, to));
        }
        return true;
    }

    public int claims(int kind, int figure, int speaker) {
        if (outside(kind, 0, 5)) {
            return refuse(-2);
        }
        if (figure < 0 || speaker < 0) {
            return refuse(-4);
        }
        if (figure > 9 || speaker > 9 || state.claims.size() == 8) {
            return refuse(-6);
        }
        state.claims.add(new Claim(kind, figure, speaker));
        return state.claims.size() - 1;
    }

    public int turns(int claim) {
        if (nobody(claim)) {
            return refuse(-1);
        }
        state.claims.get(claim).heard = !state.heard(claim);
        return state.heard(claim) ? 1 : 0;
    }

    public int kind(int claim, int kind, int figure) {
        if (nobody(claim)) {
            return refuse(-1);
        }
        if (outside(kind, 0, 5)) {
            return refuse(-2);
        }
        if (figure < 0) {
            return refuse(-4);
        }
        if (figure > 9) {
            return refuse(-6);
        }
        Claim it = state.claims.get(claim);
        int old = 10 * it.kind + it.figure;
        it.kind = kind;
        it.figure = figure;
        return old;
    }

    private int flip(Set<Pair> pairs, int from, int to) {
        if (nobody(from) || nobody(to)) {
            return refuse(-1);
        }
        if (from == to) {
            return refuse(-3);
        }
        Pair pair = new Pair(from, to);
        if (pairs.remove(pair)) {
            return 0;
        }
        pairs.add(pair);
        return 1;
    }

    public int attacks(int from, int to) {
        return flip(state.attacks, from, to);
    }

    public int supports(int from, int to) {
        return flip(state.supports, from, to);
    }

    public int mode(int mode) {
        if (mode < 0) {
            return refuse(-4);
        }
        if (mode > 3) {
            return refuse(-6);
        }
        int old = state.mode;
        state.mode = mode;
        return old;
    }

    public int claim(int claim, int what) {
        if (nobody(claim)) {
            return refuse(-1);
        }
        if (outside(what, 0, 9)) {
            return refuse(-2);
        }
        Claim it = state.claims.get(claim);
        int[] ones = {it.kind, it.figure, it.speaker, it.heard ? 1 : 0};
        if (what < 4) {
            return ones[what];
        }
        Set<Integer> found = new TreeSet<>();
        for (int c = 0; c < state.claims.size(); c++) {
            boolean goes = switch (what) {
                case 4 -> state.attacks.contains(new Pair(claim, c));
                case 5 -> state.supports.contains(new Pair(claim, c));
                case 6 -> state.hits(claim, c);
                case 7 -> state.leads(claim, c);
                case 8 -> state.defeats(claim, c);
                default -> state.defeats(c, claim);
            };
            if (goes) {
                found.add(c);
            }
        }
        return bits(found);
    }

    public int label(int claim) {
        return nobody(claim) ? refuse(-1) : new Look(state).label(claim);
    }

    public int turn(int i) {
        if (i < -1) {
            return refuse(-4);
        }
        List<Integer> in = new Look(state).in;
        return i == -1 ? in.size() : i < in.size() ? in.get(i) : -9;
    }

    public int sets(int sort, int i) {
        if (outside(sort, 0, 5)) {
            return refuse(-2);
        }
        if (i < -1) {
            return refuse(-4);
        }
        List<Set<Integer>> sets = new Look(state).sort(sort);
        return i == -1 ? sets.size() : i < sets.size() ? bits(sets.get(i)) : -9;
    }

    public int among(int sort, int claim, int what) {
        if (outside(sort, 0, 5)) {
            return refuse(-2);
        }
        if (nobody(claim)) {
            return refuse(-1);
        }
        if (outside(what, 0, 1)) {
            return refuse(-2);
        }
        List<Set<Integer>> sets = new Look(state).sort(sort);
        boolean some = sets.stream().anyMatch(s -> s.contains(claim));
        boolean all = !sets.isEmpty() && sets.stream().allMatch(s -> s.contains(claim));
        return (what == 0 ? some : all) ? 1 : 0;
    }

    public int ideal() {
        return new Look(state).ideal();
    }

    public int game(int claim, int what) {
        if (nobody(claim)) {
            return refuse(-1);
        }
        if (!state.heard(claim)) {
            return refuse(-3);
        }
        if (outside(what, 0, 1)) {
            return refuse(-2);
        }
        Play play = new Play(new Look(state));
        int depth = play.depth(Set.of(claim), claim);
        if (what == 0) {
            return depth == 0 ? -9 : depth;
        }
        return play.trees(Set.of(claim), claim).mod(BigInteger.valueOf(1000000007)).intValue();
    }

    public int answer(int claim, int other) {
        if (nobody(claim) || nobody(other)) {
            return refuse(-1);
        }
        if (!state.defeats(other, claim)) {
            return refuse(-3);
        }
        Play play = new Play(new Look(state));
        return play.depth(Set.of(claim), claim) == 0 ? -9 : play.answer(Set.of(claim), other);
    }

    public int changes(int claim, int what) {
        if (nobody(claim)) {
            return refuse(-1);
        }
        if (!state.heard(claim)) {
            return refuse(-3);
        }
        if (outside(what, 0, 1)) {
            return refuse(-2);
        }
        boolean was = new Look(state).in.contains(claim);
        List<Integer> found = new ArrayList<>();
        for (int from : state.heardOnes()) {
            for (int to : state.heardOnes()) {
                if (from != to) {
                    State other = state.copy();
                    Pair pair = new Pair(from, to);
                    if (!other.attacks.remove(pair)) {
                        other.attacks.add(pair);
                    }
                    if (new Look(other).in.contains(claim) != was) {
                        found.add(10 * from + to);
                    }
                }
            }
        }
        return what == 0 ? found.size() : found.isEmpty() ? -9 : found.get(0);
    }

    private State unheard(Set<Integer> gone) {
        State other = state.copy();
        for (int c : gone) {
            other.claims.get(c).heard = false;
        }
        return other;
    }

    public int without(int claim) {
        return nobody(claim) ? refuse(-1) : new Look(unheard(Set.of(claim))).in.size();
    }

    public int spare(int what) {
        if (outside(what, 0, 1)) {
            return refuse(-2);
        }
        List<Set<Integer>> all = new Look(state).all();
        all.sort(Comparator.comparingInt((Set<Integer> s) -> s.size()).thenComparingInt(Model::bits));
        for (Set<Integer> gone : all) {
            Look look = new Look(unheard(gone));
            if (look.all().stream().anyMatch(look::stable)) {
                return what == 0 ? gone.size() : bits(gone);
            }
        }
        throw new IllegalStateException();
    }

    public long missing(int claim, int t, int part) {
        int refused = nobody(claim) ? -1 : t < 2 ? -4 : t > 20 ? -6 : outside(part, 0, 1) ? -2 : 0;
        if (refused != 0) {
            return 4000000000000000000L - refuse(refused);
        }
        BigInteger above = BigInteger.ZERO;
        BigInteger below = BigInteger.ONE;
        for (int c : state.heardOnes()) {
            if (c <= 4) {
                below = below.multiply(BigInteger.valueOf(t));
            }
        }
        for (Set<Integer> gone : new Look(state).all()) {
            if (gone.stream().allMatch(c -> c <= 4) && new Look(unheard(gone)).in.contains(claim)) {
                BigInteger odds = BigInteger.ONE;
                for (int c : state.heardOnes()) {
                    if (c <= 4 && !gone.contains(c)) {
                        odds = odds.multiply(BigInteger.valueOf(t - 1));
                    }
                }
                above = above.add(odds);
            }
        }
        BigInteger common = above.gcd(below);
        return (part == 0 ? above : below).divide(common).longValueExact();
    }

    public int whatIs(int claim, int what) {
        if (nobody(claim)) {
            return refuse(-1);
        }
        if (outside(what, 0, 1)) {
            return refuse(-2);
        }
        Set<Integer> found = new TreeSet<>();
        for (int v = 0; v < (what == 0 ? 6 : 10); v++) {
            State other = state.copy();
            if (what == 0) {
                other.claims.get(claim).kind = v;
            } else {
                other.claims.get(claim).figure = v;
            }
            Look look = new Look(other);
            List<Integer> labels = new ArrayList<>();
            for (int c = 0; c < other.claims.size(); c++) {
                labels.add(look.label(c));
            }
            if (row.size() <= labels.size() && labels.subList(0, row.size()).equals(row)) {
                found.add(v);
            }
        }
        return bits(found);
    }

    public int row(int v) {
        if (v < 0) {
            return refuse(-4);
        }
        if (v > 9 || row.size() == 12) {
            return refuse(-6);
        }
        row.add(v);
        return row.size();
    }

    public int judge() {
        List<Integer> told = new ArrayList<>(row);
        row.clear();
        boolean goesOn = told.size() > state.claims.size();
        while (told.size() < state.claims.size()) {
            told.add(9);
        }
        Look look = new Look(state);
        for (int c = 0; c < state.claims.size(); c++) {
            int due = 3;
            if (state.heard(c)) {
                boolean allOut = look.defeaters.get(c).stream().allMatch(d -> told.get(d) == 0);
                boolean oneIn = look.defeaters.get(c).stream().anyMatch(d -> told.get(d) == 1);
                due = allOut ? 1 : oneIn ? 0 : 2;
            }
            if (told.get(c) != due) {
                return c;
            }
        }
        return goesOn ? state.claims.size() : -9;
    }

    public int clear() {
        int had = row.size();
        row.clear();
        return had;
    }

    public int speakers(int i, int what) {
        TreeMap<Integer, List<Integer>> by = new TreeMap<>();
        for (int c = 0; c < state.claims.size(); c++) {
            by.computeIfAbsent(state.claims.get(c).speaker, k -> new ArrayList<>()).add(c);
        }
        if (i == -1) {
            return by.size();
        }
        if (outside(i, 0, by.size() - 1)) {
            return refuse(-1);
        }
        if (outside(what, 0, 3)) {
            return refuse(-2);
        }
        int speaker = new ArrayList<>(by.keySet()).get(i);
        List<Integer> own = by.get(speaker);
        List<Integer> in = new Look(state).in;
        return switch (what) {
            case 0 -> speaker;
            case 1 -> own.size();
            case 2 -> (int) own.stream().filter(in::contains).count();
            default -> own.stream().mapToInt(c -> state.claims.get(c).figure).max().getAsInt();
        };
    }

    public int lots(int n, int z, int what) {
        if (n < 1) {
            return refuse(-4);
        }
        if (n > 20) {
            return refuse(-6);
        }
        if (outside(what, 0, 1)) {
            return refuse(-2);
        }
        int together = 0;
        for (int i = 0; i < n; i++) {
            State other = state.copy();
            other.attacks.clear();
            for (int from = 0; from < other.claims.size(); from++) {
                for (int to = 0; to < other.claims.size(); to++) {
                    if (from != to) {
                        z = z * 1664525 + 1013904223;
                        long unsigned = z < 0 ? z + 2147483648L : z;
                        if (unsigned / 256 % 4 == 0) {
                            other.attacks.add(new Pair(from, to));
                        }
                    }
                }
            }
            Look look = new Look(other);
            together += what == 0 ? look.in.size() : (int) look.all().stream().filter(look::stable).count();
        }
        return together;
    }

    public int image() {
        image = state.copy();
        return state.claims.size();
    }

    public int on() {
        if (image == null) {
            return refuse(-3);
        }
        state = image.copy();
        return state.claims.size();
    }

    public int count(int what) {
        return switch (what) {
            case 0 -> state.claims.size();
            case 1 -> bits(state.heardOnes());
            case 2 -> state.attacks.size();
            case 3 -> state.supports.size();
            case 4 -> state.mode;
            case 5 -> row.size();
            case 6 -> letters.length();
            case 11, 12, 13, 14, 15, 16 -> refusals.getOrDefault(10 - what, 0);
            default -> -9;
        };
    }
}

/**
 * A hall of claims that attack and support one another, as ../shared/DOC.md tells it.
 *
 * All rows are made with the object and used again, so that no call makes anything. A set of
 * claims is an int of eight bits; a relation of claims to claims is a long of eight such sets.
 */
public final class HallOfClaims {
    private static final int NOBODY = -1;
    private static final int OTHER = -2;
    private static final int STATE = -3;
    private static final int BELOW = -4;
    private static final int ROOM = -6;
    private static final int NONE = -9;
    private static final long FAR = 4000000000000000000L;

    private static final int MOST_CLAIMS = 8;
    private static final int ALL_SETS = 256;
    private static final int DIGITS = 10;
    private static final int MODES = 4;

    private static final int CLAIM = 0;
    private static final int WEAK = 1;
    private static final int FIRM = 2;
    private static final int FACT = 3;
    private static final int DOUBT = 4;
    private static final int ASIDE = 5;
    private static final int KINDS = 6;

    private static final int IN = 1;
    private static final int OUT = 0;
    private static final int UNSETTLED = 2;
    private static final int UNHEARD = 3;

    private static final int FREE = 0;
    private static final int ADMISSIBLE = 1;
    private static final int COMPLETE = 2;
    private static final int PREFERRED = 3;
    private static final int STABLE = 4;
    private static final int SEMI = 5;
    private static final int SORTS = 6;

    private final Hall now = new Hall();
    private final Hall kept = new Hall();
    private final Reader reader = new Reader();
    private final Row numbers = new Row(12);
    private final Defeats strife = new Defeats();
    private final Turns settled = new Turns();
    private final Sorts selection = new Sorts();
    private final Game dispute = new Game();
    private final Trials trials = new Trials();
    private final int[] refusals = new int[7];
    private boolean isKept = false;

    public HallOfClaims() {
    }

    public int letter(int c) {
        if (c < 0) {
            return refuse(BELOW);
        }
        if (c > 255 || reader.letters.isFull()) {
            return refuse(ROOM);
        }
        return reader.letters.add(c);
    }

    public int hall() {
        int answer = reader.read(now);
        reader.letters.length = 0;
        return answer;
    }

    public int claims(int kind, int figure, int speaker) {
        if (!isKind(kind)) {
            return refuse(OTHER);
        }
        if (figure < 0 || speaker < 0) {
            return refuse(BELOW);
        }
        if (figure >= DIGITS || speaker >= DIGITS || now.isFull()) {
            return refuse(ROOM);
        }
        return now.add(kind, figure, speaker);
    }

    public int turns(int claim) {
        if (!now.knows(claim)) {
            return refuse(NOBODY);
        }
        now.flipHeard(claim);
        return now.hears(claim) ? 1 : 0;
    }

    public int kind(int claim, int kind, int figure) {
        if (!now.knows(claim)) {
            return refuse(NOBODY);
        }
        if (!isKind(kind)) {
            return refuse(OTHER);
        }
        if (figure < 0) {
            return refuse(BELOW);
        }
        if (figure >= DIGITS) {
            return refuse(ROOM);
        }
        int old = 10 * now.kindOf(claim) + now.figureOf(claim);
        now.recast(claim, kind, figure);
        return old;
    }

    public int attacks(int from, int to) {
        if (!now.knows(from) || !now.knows(to)) {
            return refuse(NOBODY);
        }
        if (from == to) {
            return refuse(STATE);
        }
        now.flipAttack(from, to);
        return Bytes.has(now.attacks, from, to) ? 1 : 0;
    }

    public int supports(int from, int to) {
        if (!now.knows(from) || !now.knows(to)) {
            return refuse(NOBODY);
        }
        if (from == to) {
            return refuse(STATE);
        }
        now.flipSupport(from, to);
        return Bytes.has(now.supports, from, to) ? 1 : 0;
    }

    public int mode(int mode) {
        if (mode < 0) {
            return refuse(BELOW);
        }
        if (mode >= MODES) {
            return refuse(ROOM);
        }
        int old = now.mode;
        now.mode = mode;
        return old;
    }

    public int claim(int claim, int what) {
        if (!now.knows(claim)) {
            return refuse(NOBODY);
        }
        if (what < 0 || what > 9) {
            return refuse(OTHER);
        }
        strife.reckon(now);
        switch (what) {
            case 0: return now.kindOf(claim);
            case 1: return now.figureOf(claim);
            case 2: return now.speakerOf(claim);
            case 3: return now.hears(claim) ? 1 : 0;
            case 4: return Bytes.get(now.attacks, claim);
            case 5: return Bytes.get(now.supports, claim);
            case 6: return Bytes.get(strife.hits, claim);
            case 7: return Bytes.get(strife.leads, claim);
            case 8: return Bytes.get(strife.defeats, claim);
            default: return Bytes.get(strife.defeaters, claim);
        }
    }

    public int label(int claim) {
        if (!now.knows(claim)) {
            return refuse(NOBODY);
        }
        settle();
        return settled.labelOf(now, claim);
    }

    public int turn(int i) {
        if (i < -1) {
            return refuse(BELOW);
        }
        settle();
        return i == -1 ? settled.length : settled.at(i);
    }

    public int sets(int sort, int i) {
        if (!isSort(sort)) {
            return refuse(OTHER);
        }
        if (i < -1) {
            return refuse(BELOW);
        }
        strife.reckon(now);
        selection.select(sort, now.heard, strife);
        return i == -1 ? selection.size() : selection.at(i);
    }

    public int among(int sort, int claim, int what) {
        if (!isSort(sort)) {
            return refuse(OTHER);
        }
        if (!now.knows(claim)) {
            return refuse(NOBODY);
        }
        if (!isFirstOrSecond(what)) {
            return refuse(OTHER);
        }
        strife.reckon(now);
        selection.select(sort, now.heard, strife);
        int size = selection.size();
        int having = selection.sizeWith(claim);
        boolean holds = what == 0 ? having > 0 : size > 0 && having == size;
        return holds ? 1 : 0;
    }

    public int ideal() {
        strife.reckon(now);
        selection.select(PREFERRED, now.heard, strife);
        int common = selection.common();
        selection.select(ADMISSIBLE, now.heard, strife);
        return selection.greatestWithin(common);
    }

    public int game(int claim, int what) {
        if (!now.knows(claim)) {
            return refuse(NOBODY);
        }
        if (!now.hears(claim)) {
            return refuse(STATE);
        }
        if (!isFirstOrSecond(what)) {
            return refuse(OTHER);
        }
        strife.reckon(now);
        dispute.play(claim, now.heard, strife.defeaters);
        if (what == 1) {
            return dispute.trees(claim);
        }
        return dispute.isWon(claim) ? dispute.depth(claim) : NONE;
    }

    public int answer(int claim, int other) {
        if (!now.knows(claim) || !now.knows(other)) {
            return refuse(NOBODY);
        }
        strife.reckon(now);
        if (!Bytes.has(strife.defeats, other, claim)) {
            return refuse(STATE);
        }
        dispute.play(claim, now.heard, strife.defeaters);
        return dispute.isWon(claim) ? dispute.answerTo(claim, other) : NONE;
    }

    public int changes(int claim, int what) {
        if (!now.knows(claim)) {
            return refuse(NOBODY);
        }
        if (!now.hears(claim)) {
            return refuse(STATE);
        }
        if (!isFirstOrSecond(what)) {
            return refuse(OTHER);
        }
        return trials.changesFor(now, claim, what == 1);
    }

    public int without(int claim) {
        if (!now.knows(claim)) {
            return refuse(NOBODY);
        }
        return trials.inWithout(now, 1 << claim);
    }

    public int spare(int what) {
        if (!isFirstOrSecond(what)) {
            return refuse(OTHER);
        }
        int spared = trials.spared(now);
        return what == 0 ? Integer.bitCount(spared) : spared;
    }

    public long missing(int claim, int t, int part) {
        if (!now.knows(claim)) {
            return refuseFar(NOBODY);
        }
        if (t < 2) {
            return refuseFar(BELOW);
        }
        if (t > 20) {
            return refuseFar(ROOM);
        }
        if (!isFirstOrSecond(part)) {
            return refuseFar(OTHER);
        }
        long below = trials.allOdds(now, t);
        long above = trials.oddsOfIn(now, claim, t);
        long common = Trials.commonDivisor(above, below);
        if (common < 1) {
            return 0;
        }
        return part == 0 ? above / common : below / common;
    }

    public int whatIs(int claim, int what) {
        if (!now.knows(claim)) {
            return refuse(NOBODY);
        }
        if (!isFirstOrSecond(what)) {
            return refuse(OTHER);
        }
        return what == 0 ? trials.kindsBy(numbers, now, claim) : trials.figuresBy(numbers, now, claim);
    }

    public int row(int v) {
        if (v < 0) {
            return refuse(BELOW);
        }
        if (v >= DIGITS || numbers.isFull()) {
            return refuse(ROOM);
        }
        return numbers.add(v);
    }

    public int judge() {
        strife.reckon(now);
        int judged = Labels.judged(numbers, now, strife.defeaters);
        numbers.length = 0;
        return judged;
    }

    public int clear() {
        int had = numbers.length;
        numbers.length = 0;
        return had;
    }

    public int speakers(int i, int what) {
        if (i == -1) {
            return now.speakersThere();
        }
        int speaker = now.speakerAt(i);
        if (speaker < 0) {
            return refuse(NOBODY);
        }
        if (what < 0 || what > 3) {
            return refuse(OTHER);
        }
        int own = now.claimsOf(speaker);
        switch (what) {
            case 0: return speaker;
            case 1: return Integer.bitCount(own);
            case 2:
                settle();
                return Integer.bitCount(own & settled.in);
            default: return now.greatestFigure(own);
        }
    }

    public int lots(int n, int z, int what) {
        if (n < 1) {
            return refuse(BELOW);
        }
        if (n > 20) {
            return refuse(ROOM);
        }
        if (!isFirstOrSecond(what)) {
            return refuse(OTHER);
        }
        return trials.drawn(now, n, z, what == 1);
    }

    public int image() {
        kept.take(now);
        isKept = true;
        return kept.size;
    }

    public int on() {
        if (!isKept) {
            return refuse(STATE);
        }
        now.take(kept);
        return now.size;
    }

    public int count(int what) {
        switch (what) {
            case 0: return now.size;
            case 1: return now.heard;
            case 2: return Long.bitCount(now.attacks);
            case 3: return Long.bitCount(now.supports);
            case 4: return now.mode;
            case 5: return numbers.length;
            case 6: return reader.letters.length;
            default: return refusalsAt(what - 10);
        }
    }

    /** How often the number below 0 by so much was answered. */
    private int refusalsAt(int place) {
        return place > 0 && place < refusals.length ? refusals[place] : NONE;
    }

    private int refuse(int number) {
        int place = -number;
        if (place > 0 && place < refusals.length) {
            refusals[place]++;
        }
        return number;
    }

    private long refuseFar(int number) {
        return FAR - refuse(number);
    }

    private void settle() {
        strife.reckon(now);
        settled.run(now, strife);
    }

    private static boolean isKind(int kind) {
        return kind >= 0 && kind < KINDS;
    }

    private static boolean isSort(int sort) {
        return sort >= 0 && sort < SORTS;
    }

    private static boolean isFirstOrSecond(int what) {
        return what == 0 || what == 1;
    }

    /** Eight bytes in a long, one for each claim; shifts need no row and so no index. */
    private static final class Bytes {
        static int get(long bytes, int claim) {
            return (int) (bytes >>> (8 * claim)) & 255;
        }

        static long with(long bytes, int claim, int value) {
            int shift = 8 * claim;
            return bytes & ~(255L << shift) | (value & 255L) << shift;
        }

        /** The relation that goes from one claim to one and nowhere else. */
        static long pair(int from, int to) {
            return 1L << (8 * from + to);
        }

        static boolean has(long relation, int from, int to) {
            return (relation & pair(from, to)) != 0;
        }

        static boolean contains(int set, int claim) {
            return (set >>> claim & 1) == 1;
        }

        /** All to which the relation goes from some claim of the set. */
        static int reach(long relation, int set) {
            int reached = 0;
            for (int claim = 0; claim < MOST_CLAIMS; claim++) {
                if (contains(set, claim)) {
                    reached |= get(relation, claim);
                }
            }
            return reached;
        }

        /** From a to c, if the first goes from a to some b and the second from b to c. */
        static long joined(long first, long second) {
            long joined = 0;
            for (int from = 0; from < MOST_CLAIMS; from++) {
                joined = with(joined, from, reach(second, get(first, from)));
            }
            return joined;
        }

        static long turned(long relation) {
            long turned = 0;
            for (int from = 0; from < MOST_CLAIMS; from++) {
                for (int to = 0; to < MOST_CLAIMS; to++) {
                    if (has(relation, from, to)) {
                        turned |= pair(to, from);
                    }
                }
            }
            return turned;
        }

        /** Of the relation what goes from one of the set to one of the set. */
        static long within(long relation, int set) {
            long within = 0;
            for (int from = 0; from < MOST_CLAIMS; from++) {
                if (contains(set, from)) {
                    within = with(within, from, get(relation, from) & set);
                }
            }
            return within;
        }

        /** From a to c, if the relation goes from a to c by one step or more. */
        static long closed(long relation) {
            long closed = relation;
            for (int by = 0; by < MOST_CLAIMS; by++) {
                for (int from = 0; from < MOST_CLAIMS; from++) {
                    if (has(closed, from, by)) {
                        closed = with(closed, from, get(closed, from) | get(closed, by));
                    }
                }
            }
            return closed;
        }
    }

    /** Numbers one behind the other, as many as there is room for. */
    private static final class Row {
        private final int[] numbers;
        int length = 0;

        Row(int room) {
            numbers = new int[Math.max(0, room)];
        }

        boolean isFull() {
            return length >= numbers.length;
        }

        int add(int number) {
            if (length >= 0 && length < numbers.length) {
                numbers[length] = number;
                length++;
            }
            return length;
        }

        int at(int place, int lacking) {
            return place >= 0 && place < length && place < numbers.length ? numbers[place] : lacking;
        }
    }

    /** All that the image keeps. */
    private static final class Hall {
        int size = 0;
        int heard = 0;
        int mode = MODES - 1;
        long cast = 0;
        long figures = 0;
        long voices = 0;
        long attacks = 0;
        long supports = 0;

        void take(Hall other) {
            size = other.size;
            heard = other.heard;
            mode = other.mode;
            cast = other.cast;
            figures = other.figures;
            voices = other.voices;
            attacks = other.attacks;
            supports = other.supports;
        }

        boolean isFull() {
            return size >= MOST_CLAIMS;
        }

        boolean knows(int claim) {
            return claim >= 0 && claim < size;
        }

        boolean hears(int claim) {
            return knows(claim) && Bytes.contains(heard, claim);
        }

        int kindOf(int claim) {
            return Bytes.get(cast, claim);
        }

        int figureOf(int claim) {
            return Bytes.get(figures, claim);
        }

        int speakerOf(int claim) {
            return Bytes.get(voices, claim);
        }

        int add(int kind, int figure, int speaker) {
            int claim = size;
            size++;
            heard |= 1 << claim;
            cast = Bytes.with(cast, claim, kind);
            figures = Bytes.with(figures, claim, figure);
            voices = Bytes.with(voices, claim, speaker);
            return claim;
        }

        void recast(int claim, int kind, int figure) {
            cast = Bytes.with(cast, claim, kind);
            figures = Bytes.with(figures, claim, figure);
        }

        void flipHeard(int claim) {
            heard ^= 1 << claim;
        }

        void flipAttack(int from, int to) {
            attacks ^= Bytes.pair(from, to);
        }

        void flipSupport(int from, int to) {
            supports ^= Bytes.pair(from, to);
        }

        int claimsOf(int speaker) {
            int own = 0;
            for (int claim = 0; claim < size; claim++) {
                if (speakerOf(claim) == speaker) {
                    own |= 1 << claim;
                }
            }
            return own;
        }

        int speakersThere() {
            int there = 0;
            for (int speaker = 0; speaker < DIGITS; speaker++) {
                if (claimsOf(speaker) != 0) {
                    there++;
                }
            }
            return there;
        }

        /** The i-th speaker that has claims, or -1. */
        int speakerAt(int i) {
            int seen = 0;
            for (int speaker = 0; speaker < DIGITS; speaker++) {
                if (claimsOf(speaker) != 0) {
                    if (seen == i) {
                        return speaker;
                    }
                    seen++;
                }
            }
            return -1;
        }

        int greatestFigure(int set) {
            int greatest = 0;
            for (int claim = 0; claim < size; claim++) {
                if (Bytes.contains(set, claim)) {
                    greatest = Math.max(greatest, figureOf(claim));
                }
            }
            return greatest;
        }
    }

    /** What hits, leads to and defeats what in a hall. */
    private static final class Defeats {
        long hits = 0;
        long leads = 0;
        long defeats = 0;
        long defeaters = 0;

        void reckon(Hall hall) {
            hits = hitsIn(hall);
            leads = Bytes.closed(Bytes.within(hall.supports, hall.heard));
            defeats = hits;
            if (hall.mode == 1 || hall.mode == 3) {
                defeats |= Bytes.joined(leads, hits);
            }
            if (hall.mode == 2 || hall.mode == 3) {
                defeats |= Bytes.joined(hits, leads);
            }
            defeaters = Bytes.turned(defeats);
        }

        private static long hitsIn(Hall hall) {
            long found = 0;
            for (int from = 0; from < hall.size; from++) {
                for (int to = 0; to < hall.size; to++) {
                    int lead = hall.figureOf(from) - hall.figureOf(to);
                    boolean areLet = letHit(hall.kindOf(from), hall.kindOf(to), lead);
                    if (areLet && Bytes.has(hall.attacks, from, to)) {
                        found |= Bytes.pair(from, to);
                    }
                }
                if (hall.kindOf(from) == DOUBT) {
                    found |= Bytes.pair(from, from);
                }
            }
            return Bytes.within(found, hall.heard);
        }

        /** Whether both kinds let it, where the hitter's figure leads that of its target by so much. */
        private static boolean letHit(int hitter, int target, int lead) {
            if (hitter == ASIDE || target == FACT && hitter != FACT) {
                return false;
            }
            if ((hitter == WEAK || hitter == DOUBT) && lead < 0) {
                return false;
            }
            return target != FIRM && target != FACT || lead >= 0;
        }
    }

    /** The least fixed set, by turns. */
    private static final class Turns {
        int in = 0;
        int out = 0;
        int length = 0;
        private long order = 0;

        void run(Hall hall, Defeats strife) {
            in = 0;
            out = 0;
            length = 0;
            order = 0;
            for (int round = 0; round < hall.size; round++) {
                int next = next(hall, strife.defeaters);
                if (next < 0) {
                    break;
                }
                in |= 1 << next;
                out |= Bytes.get(strife.defeats, next);
                order = Bytes.with(order, length, next);
                length++;
            }
        }

        private int next(Hall hall, long defeaters) {
            int next = -1;
            int open = hall.heard & ~in & ~out;
            for (int claim = 0; claim < hall.size; claim++) {
                boolean isFree = (Bytes.get(defeaters, claim) & ~out) == 0;
                if (Bytes.contains(open, claim) && isFree) {
                    if (next < 0 || hall.figureOf(claim) > hall.figureOf(next)) {
                        next = claim;
                    }
                }
            }
            return next;
        }

        int at(int i) {
            return i >= 0 && i < length ? Bytes.get(order, i) : NONE;
        }

        int labelOf(Hall hall, int claim) {
            if (!hall.hears(claim)) {
                return UNHEARD;
            }
            if (Bytes.contains(in, claim)) {
                return IN;
            }
            return Bytes.contains(out, claim) ? OUT : UNSETTLED;
        }
    }

    /** The sets of one sort. */
    private static final class Sorts {
        private final boolean[] chosen = new boolean[ALL_SETS];
        private final boolean[] marked = new boolean[ALL_SETS];
        private final boolean[] surpassed = new boolean[ALL_SETS];
        private int heard = 0;
        private long defeats = 0;
        private long defeaters = 0;

        void select(int sort, int hearing, Defeats strife) {
            heard = hearing;
            defeats = strife.defeats;
            defeaters = strife.defeaters;
            for (int set = 0; set < chosen.length; set++) {
                chosen[set] = (set & ~heard) == 0 && isOf(sort, set);
            }
            if (sort == PREFERRED || sort == SEMI) {
                dropSurpassed(sort == SEMI);
            }
        }

        /** Of the two sorts of greatest sets it tells those among which the greatest are. */
        private boolean isOf(int sort, int set) {
            switch (sort) {
                case FREE: return isFree(set);
                case ADMISSIBLE: return isAdmissible(set);
                case COMPLETE: return isComplete(set);
                case PREFERRED: return isAdmissible(set);
                case STABLE: return isStable(set, heard, defeats);
                case SEMI: return isComplete(set);
                default: return false;
            }
        }

        private boolean isFree(int set) {
            return (Bytes.reach(defeats, set) & set) == 0;
        }

        private boolean isAdmissible(int set) {
            int beaten = Bytes.reach(defeats, set);
            return (beaten & set) == 0 && (Bytes.reach(defeaters, set) & ~beaten) == 0;
        }

        private boolean isComplete(int set) {
            return isAdmissible(set) && (defendedBy(set) & ~set) == 0;
        }

        private static boolean isStable(int set, int heard, long defeats) {
            return Bytes.reach(defeats, set) == (heard & ~set);
        }

        static int stableSets(int heard, long defeats) {
            int found = 0;
            for (int set = 0; set < ALL_SETS; set++) {
                if ((set & ~heard) == 0 && isStable(set, heard, defeats)) {
                    found++;
                }
            }
            return found;
        }

        private int defendedBy(int set) {
            int beaten = Bytes.reach(defeats, set);
            int defended = 0;
            for (int claim = 0; claim < MOST_CLAIMS; claim++) {
                if ((Bytes.get(defeaters, claim) & ~beaten) == 0) {
                    defended |= 1 << claim;
                }
            }
            return defended & heard;
        }

        private void dropSurpassed(boolean byRange) {
            for (int set = 0; set < marked.length; set++) {
                marked[set] = false;
            }
            for (int set = 0; set < chosen.length; set++) {
                if (chosen[set]) {
                    mark(byRange ? rangeOf(set) : set);
                }
            }
            findSurpassed();
            for (int set = 0; set < chosen.length; set++) {
                chosen[set] = chosen[set] && !isSurpassed(byRange ? rangeOf(set) : set);
            }
        }

        private int rangeOf(int set) {
            return set | Bytes.reach(defeats, set);
        }

        private void mark(int set) {
            if (set >= 0 && set < marked.length) {
                marked[set] = true;
            }
        }

        /** Downwards, so that what a set one claim greater has found is there already. */
        private void findSurpassed() {
            for (int set = surpassed.length - 1; set >= 0; set--) {
                boolean found = false;
                for (int claim = 0; claim < MOST_CLAIMS; claim++) {
                    int greater = set | 1 << claim;
                    if (greater != set && (isMarked(greater) || isSurpassed(greater))) {
                        found = true;
                    }
                }
                surpassed[set] = found;
            }
        }

        private boolean isMarked(int set) {
            return set >= 0 && set < marked.length && marked[set];
        }

        private boolean isSurpassed(int set) {
            return set >= 0 && set < surpassed.length && surpassed[set];
        }

        int size() {
            int size = 0;
            for (int set = 0; set < chosen.length; set++) {
                if (chosen[set]) {
                    size++;
                }
            }
            return size;
        }

        int sizeWith(int claim) {
            int size = 0;
            for (int set = 0; set < chosen.length; set++) {
                if (chosen[set] && Bytes.contains(set, claim)) {
                    size++;
                }
            }
            return size;
        }

        int at(int i) {
            int seen = 0;
            for (int most = MOST_CLAIMS; most >= 0; most--) {
                for (int set = 0; set < chosen.length; set++) {
                    if (chosen[set] && Integer.bitCount(set) == most) {
                        if (seen == i) {
                            return set;
                        }
                        seen++;
                    }
                }
            }
            return NONE;
        }

        /** The claims that are in each of the sets; all that are heard, if there are no sets. */
        int common() {
            int common = heard;
            for (int set = 0; set < chosen.length; set++) {
                if (chosen[set]) {
                    common &= set;
                }
            }
            return common;
        }

        int greatestWithin(int limit) {
            int greatest = 0;
            for (int set = 0; set < chosen.length; set++) {
                boolean isGreater = Integer.bitCount(set) > Integer.bitCount(greatest);
                if (chosen[set] && (set & ~limit) == 0 && isGreater) {
                    greatest = set;
                }
            }
            return greatest;
        }
    }

    /**
     * The game of one claim. What is still to come depends on nothing but the set that PRO said
     * and the last of it; so each such place is reckoned once, the greater sets first.
     */
    private static final class Game {
        private static final long PRIME = 1000000007L;

        /** How much is said at most from PRO's last on, this counted; 0 where PRO can't win. */
        private final int[] depths = new int[ALL_SETS * MOST_CLAIMS];
        private final int[] ways = new int[ALL_SETS * MOST_CLAIMS];
        private long defeaters = 0;

        void play(int claim, int heard, long whatDefeats) {
            defeaters = whatDefeats;
            for (int said = ALL_SETS - 1; said >= 0; said--) {
                if (Bytes.contains(said, claim) && (said & ~heard) == 0) {
                    reckon(said);
                }
            }
        }

        private void reckon(int said) {
            for (int last = 0; last < MOST_CLAIMS; last++) {
                int place = placeOf(said, last);
                boolean isPlace = place >= 0 && place < depths.length && place < ways.length;
                if (isPlace && Bytes.contains(said, last)) {
                    depths[place] = depthBehind(said, last);
                    ways[place] = waysBehind(said, last);
                }
            }
        }

        private static int placeOf(int said, int last) {
            return (said & ALL_SETS - 1) * MOST_CLAIMS + (last & MOST_CLAIMS - 1);
        }

        private int depthBehind(int said, int last) {
            int most = 0;
            int against = Bytes.get(defeaters, last);
            for (int other = 0; other < MOST_CLAIMS; other++) {
                if (Bytes.contains(against, other)) {
                    int best = bestAnswer(said, other);
                    if (best < 0) {
                        return 0;
                    }
                    most = Math.max(most, 1 + depthAt(said | 1 << best, best));
                }
            }
            return 1 + most;
        }

        /** What PRO says best to what CON said, or -1 if PRO then can't win. */
        private int bestAnswer(int said, int other) {
            int best = -1;
            int least = 0;
            int able = Bytes.get(defeaters, other) & ~said;
            for (int next = 0; next < MOST_CLAIMS; next++) {
                if (Bytes.contains(able, next)) {
                    int depth = depthAt(said | 1 << next, next);
                    if (depth > 0 && (best < 0 || depth < least)) {
                        best = next;
                        least = depth;
                    }
                }
            }
            return best;
        }

        private int waysBehind(int said, int last) {
            long product = 1;
            int against = Bytes.get(defeaters, last);
            for (int other = 0; other < MOST_CLAIMS; other++) {
                if (Bytes.contains(against, other)) {
                    product = product * waysToAnswer(said, other) % PRIME;
                }
            }
            return (int) product;
        }

        private long waysToAnswer(int said, int other) {
            long sum = 0;
            int able = Bytes.get(defeaters, other) & ~said;
            for (int next = 0; next < MOST_CLAIMS; next++) {
                if (Bytes.contains(able, next)) {
                    sum += waysAt(said | 1 << next, next);
                }
            }
            return sum % PRIME;
        }

        private int depthAt(int said, int last) {
            int place = placeOf(said, last);
            return place >= 0 && place < depths.length ? depths[place] : 0;
        }

        private int waysAt(int said, int last) {
            int place = placeOf(said, last);
            return place >= 0 && place < ways.length ? ways[place] : 0;
        }

        int depth(int claim) {
            return depthAt(1 << claim, claim);
        }

        boolean isWon(int claim) {
            return depth(claim) > 0;
        }

        int trees(int claim) {
            return waysAt(1 << claim, claim);
        }

        int answerTo(int claim, int other) {
            int best = bestAnswer(1 << claim, other);
            return best < 0 ? NONE : best;
        }
    }

    /** How letters become a hall. */
    private static final class Reader {
        private static final int START = 0;
        private static final int THREE_DIGITS = 1;
        private static final int TWO_DIGITS = 2;
        private static final int ONE_DIGIT = 3;
        private static final int END = 4;
        private static final int AFTER_CLAIM = 5;
        private static final int CLAIM_DUE = 6;
        private static final int CHAIN = 7;
        private static final int BAD = 8;

        final Row letters = new Row(96);
        private final Hall draft = new Hall();

        int read(Hall hall) {
            int bad = badPlace();
            return bad >= 0 ? -1000 - bad : applied(hall);
        }

        /** The place with which no hall can go on, or -1. */
        private int badPlace() {
            int step = START;
            for (int place = 0; place < letters.length; place++) {
                step = stepBy(step, letters.at(place, -1));
                if (step == BAD) {
                    return place;
                }
            }
            return step == START && letters.length > 0 ? -1 : letters.length;
        }

        private static int stepBy(int step, int letter) {
            switch (step) {
                case START: return startBy(letter);
                case THREE_DIGITS: return isDigit(letter) ? TWO_DIGITS : BAD;
                case TWO_DIGITS: return isDigit(letter) ? ONE_DIGIT : BAD;
                case ONE_DIGIT: return isDigit(letter) ? END : BAD;
                case END: return letter == ';' ? START : BAD;
                case AFTER_CLAIM: return behindClaim(letter);
                case CLAIM_DUE: return isClaim(letter) ? CHAIN : BAD;
                case CHAIN:
                    if (letter == ';') {
                        return START;
                    }
                    return isArrow(letter) ? CLAIM_DUE : BAD;
                default: return BAD;
            }
        }

        private static int startBy(int letter) {
            if (letter == '*') {
                return THREE_DIGITS;
            }
            if (letter == 'm') {
                return ONE_DIGIT;
            }
            return isClaim(letter) ? AFTER_CLAIM : BAD;
        }

        private static int behindClaim(int letter) {
            if (letter == ':') {
                return TWO_DIGITS;
            }
            if (letter == '!') {
                return END;
            }
            return isArrow(letter) ? CLAIM_DUE : BAD;
        }

        private static boolean isDigit(int letter) {
            return letter >= '0' && letter <= '9';
        }

        private static boolean isClaim(int letter) {
            return letter >= 'a' && letter <= 'z' && letter != 'm';
        }

        private static boolean isArrow(int letter) {
            return letter == '>' || letter == '+';
        }

        /** On a draft, since the hall must stay as it is if a later statement is at fault. */
        private int applied(Hall hall) {
            draft.take(hall);
            int statements = 0;
            int start = 0;
            for (int place = 0; place < letters.length; place++) {
                if (letters.at(place, -1) == ';') {
                    if (!apply(start, place)) {
                        return -2000 - start;
                    }
                    statements++;
                    start = place + 1;
                }
            }
            hall.take(draft);
            return statements;
        }

        private boolean apply(int start, int end) {
            int first = letters.at(start, -1);
            if (first == '*') {
                return applyNew(start);
            }
            if (first == 'm') {
                return applyMode(digitAt(start + 1));
            }
            int claim = claimAt(start);
            if (!draft.knows(claim)) {
                return false;
            }
            int second = letters.at(start + 1, -1);
            if (second == ':') {
                return applyKind(claim, digitAt(start + 2), digitAt(start + 3));
            }
            if (second == '!') {
                draft.flipHeard(claim);
                return true;
            }
            return applyChain(start, end);
        }

        private boolean applyNew(int start) {
            int kind = digitAt(start + 1);
            if (!isKind(kind) || draft.isFull()) {
                return false;
            }
            draft.add(kind, digitAt(start + 2), digitAt(start + 3));
            return true;
        }

        private boolean applyMode(int mode) {
            if (mode < 0 || mode >= MODES) {
                return false;
            }
            draft.mode = mode;
            return true;
        }

        private boolean applyKind(int claim, int kind, int figure) {
            if (!isKind(kind)) {
                return false;
            }
            draft.recast(claim, kind, figure);
            return true;
        }

        private boolean applyChain(int start, int end) {
            for (int place = start + 1; place < end; place += 2) {
                if (!applyArrow(claimAt(place - 1), letters.at(place, -1), claimAt(place + 1))) {
                    return false;
                }
            }
            return true;
        }

        private boolean applyArrow(int from, int arrow, int to) {
            if (!draft.knows(from) || !draft.knows(to) || from == to) {
                return false;
            }
            if (arrow == '>') {
                draft.attacks |= Bytes.pair(from, to);
            } else {
                draft.supports |= Bytes.pair(from, to);
            }
            return true;
        }

        private int digitAt(int place) {
            return letters.at(place, -1) - '0';
        }

        private int claimAt(int place) {
            return letters.at(place, -1) - 'a';
        }
    }

    /** Labels that a row of numbers tells. */
    private static final class Labels {
        private static final int LACKING = 9;

        /** Whether the labels begin as the row tells them. */
        static boolean beginSo(Row row, Hall hall, Turns settled) {
            if (row.length > hall.size) {
                return false;
            }
            for (int claim = 0; claim < row.length; claim++) {
                if (row.at(claim, LACKING) != settled.labelOf(hall, claim)) {
                    return false;
                }
            }
            return true;
        }

        static int judged(Row row, Hall hall, long defeaters) {
            for (int claim = 0; claim < hall.size; claim++) {
                int due = hall.hears(claim) ? dueBy(row, Bytes.get(defeaters, claim)) : UNHEARD;
                if (row.at(claim, LACKING) != due) {
                    return claim;
                }
            }
            return row.length > hall.size ? hall.size : NONE;
        }

        /** What is due to one with these defeaters. */
        private static int dueBy(Row row, int against) {
            boolean allOut = true;
            for (int other = 0; other < MOST_CLAIMS; other++) {
                if (Bytes.contains(against, other)) {
                    int number = row.at(other, LACKING);
                    if (number == IN) {
                        return OUT;
                    }
                    allOut = allOut && number == OUT;
                }
            }
            return allOut ? IN : UNSETTLED;
        }
    }

    /** What would be in halls that are like the hall but for a little; the hall itself stays. */
    private static final class Trials {
        private static final int MAY_LACK = 31;
        private static final int ALL_BUT_SIGN = 0x7fffffff;

        private final Hall draft = new Hall();
        private final Defeats strife = new Defeats();
        private final Turns settled = new Turns();

        private int draftIn() {
            strife.reckon(draft);
            settled.run(draft, strife);
            return settled.in;
        }

        private int draftStable() {
            strife.reckon(draft);
            return Sorts.stableSets(draft.heard, strife.defeats);
        }

        /** How many changes there are, or the first. */
        int changesFor(Hall hall, int claim, boolean first) {
            draft.take(hall);
            boolean wasIn = Bytes.contains(draftIn(), claim);
            int found = 0;
            for (int from = 0; from < hall.size; from++) {
                for (int to = 0; to < hall.size; to++) {
                    if (from != to && hall.hears(from) && hall.hears(to)) {
                        draft.flipAttack(from, to);
                        boolean isIn = Bytes.contains(draftIn(), claim);
                        draft.flipAttack(from, to);
                        if (isIn != wasIn && first) {
                            return 10 * from + to;
                        }
                        found += isIn != wasIn ? 1 : 0;
                    }
                }
            }
            return first ? NONE : found;
        }

        private void draftWithout(Hall hall, int gone) {
            draft.take(hall);
            draft.heard = hall.heard & ~gone;
        }

        int inWithout(Hall hall, int gone) {
            draftWithout(hall, gone);
            return Integer.bitCount(draftIn());
        }

        int spared(Hall hall) {
            for (int many = 0; many <= MOST_CLAIMS; many++) {
                for (int gone = 0; gone < ALL_SETS; gone++) {
                    if (Integer.bitCount(gone) == many && (gone & ~hall.heard) == 0) {
                        draftWithout(hall, gone);
                        if (draftStable() > 0) {
                            return gone;
                        }
                    }
                }
            }
            return hall.heard;
        }

        /** The odds count in parts of this: t as often as there are claims that may lack. */
        long allOdds(Hall hall, int t) {
            return power(t, Integer.bitCount(hall.heard & MAY_LACK));
        }

        long oddsOfIn(Hall hall, int claim, int t) {
            int open = hall.heard & MAY_LACK;
            long odds = 0;
            for (int gone = 0; gone <= MAY_LACK; gone++) {
                if ((gone & ~open) == 0) {
                    draftWithout(hall, gone);
                    if (Bytes.contains(draftIn(), claim)) {
                        odds += power(t - 1, Integer.bitCount(open & ~gone));
                    }
                }
            }
            return odds;
        }

        private static long power(int base, int times) {
            long power = 1;
            for (int i = 0; i < times; i++) {
                power *= base;
            }
            return power;
        }

        static long commonDivisor(long above, long below) {
            long divisor = below;
            long rest = above;
            for (int step = 0; step < 100 && rest != 0; step++) {
                long next = divisor % rest;
                divisor = rest;
                rest = next;
            }
            return divisor;
        }

        int kindsBy(Row row, Hall hall, int claim) {
            draft.take(hall);
            int fitting = 0;
            for (int kind = CLAIM; kind < KINDS; kind++) {
                draft.recast(claim, kind, hall.figureOf(claim));
                draftIn();
                if (Labels.beginSo(row, draft, settled)) {
                    fitting |= 1 << kind;
                }
            }
            return fitting;
        }

        int figuresBy(Row row, Hall hall, int claim) {
            draft.take(hall);
            int fitting = 0;
            for (int figure = 0; figure < DIGITS; figure++) {
                draft.recast(claim, hall.kindOf(claim), figure);
                draftIn();
                if (Labels.beginSo(row, draft, settled)) {
                    fitting |= 1 << figure;
                }
            }
            return fitting;
        }

        /** Of halls by lot, together, how many stable sets there are or how many claims are in. */
        int drawn(Hall hall, int halls, int seed, boolean stable) {
            draft.take(hall);
            int state = seed;
            int together = 0;
            for (int i = 0; i < halls; i++) {
                state = drawAttacks(state);
                together += stable ? draftStable() : Integer.bitCount(draftIn());
            }
            return together;
        }

        /** Draws one time for each two unlike claims; answers the seed behind it. */
        private int drawAttacks(int seed) {
            int state = seed;
            draft.attacks = 0;
            for (int from = 0; from < draft.size; from++) {
                for (int to = 0; to < draft.size; to++) {
                    if (from != to) {
                        state = state * 1664525 + 1013904223;
                        if ((state & ALL_BUT_SIGN) / 256 % 4 == 0) {
                            draft.flipAttack(from, to);
                        }
                    }
                }
            }
            return state;
        }
    }
}

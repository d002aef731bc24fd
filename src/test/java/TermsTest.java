/** The document's Terms, sentence by sentence: what bounds them, by numbers reckoned by hand. */
public final class TermsTest {
    private static final int FAR_OUT = Integer.MAX_VALUE;
    private static final int FAR_BELOW = Integer.MIN_VALUE;
    private static final String EIGHT = "*000;*000;*000;*000;*000;*000;*000;*000;";

    private TermsTest() {
    }

    public static void main(String[] args) {
        noClaims();
        claimsAndPairs();
        kindsThatLet();
        kindsOfEight();
        leads();
        defeats();
        turns();
        sorts();
        ideal();
        signsOfLetters();
        sensesOfLetters();
        longLetters();
        games();
        gamesOfSaidOnes();
        gamesAndLabels();
        changes();
        spare();
        missing();
        whatKind();
        judged();
        speakers();
        lots();
        image();
        Checks.end();
    }

    /** What each call answers where there are no CLAIMS. */
    private static void noClaims() {
        HallOfClaims x = new HallOfClaims();
        for (int sort = 0; sort < 6; sort++) {
            Checks.due("empty: one set of " + sort, x.sets(sort, -1), 1);
            Checks.due("empty: that of none", x.sets(sort, 0), 0);
            Checks.due("empty: no second", x.sets(sort, 1), -9);
        }
        Checks.due("empty: IDEAL", x.ideal(), 0);
        Checks.due("empty: TURNS", x.turn(-1), 0);
        Checks.due("empty: no turn", x.turn(0), -9);
        Checks.due("empty: SPARE", x.spare(0), 0);
        Checks.due("empty: SPARE which", x.spare(1), 0);
        Checks.due("empty: JUDGED", x.judge(), -9);
        Checks.due("empty: clear", x.clear(), 0);
        Checks.due("empty: SPEAKERS", x.speakers(-1, -1), 0);
        Checks.due("empty: LOTS, IN", x.lots(20, -1, 0), 0);
        Checks.due("empty: LOTS, STABLE", x.lots(20, -1, 1), 20);
        Checks.due("empty: hall", x.hall(), -1000);
        Checks.due("empty: image", x.image(), 0);
        Checks.due("empty: on", x.on(), 0);
    }

    private static void claimsAndPairs() {
        HallOfClaims x = new HallOfClaims();
        for (int i = 0; i < 8; i++) {
            Checks.due("CLAIMS as they come", x.claims(i % 6, 9 - i, i + 1), i);
        }
        for (int i = 0; i < 8; i++) {
            Checks.due("KIND", x.claim(i, 0), i % 6);
            Checks.due("FIGURE", x.claim(i, 1), 9 - i);
            Checks.due("SPEAKER", x.claim(i, 2), i + 1);
            Checks.due("HEARD at first", x.claim(i, 3), 1);
            Checks.due("no ATTACKS at first", x.claim(i, 4), 0);
            Checks.due("no SUPPORTS at first", x.claim(i, 5), 0);
        }
        int many = 0;
        for (int from = 0; from < 8; from++) {
            for (int to = 0; to < 8; to++) {
                if (from != to) {
                    many++;
                    Checks.due("each ATTACK", x.attacks(from, to), 1);
                    Checks.due("each SUPPORT", x.supports(to, from), 1);
                    Checks.due("ATTACKS", x.count(2), many);
                    Checks.due("SUPPORTS", x.count(3), many);
                }
            }
            Checks.due("all others", x.claim(from, 4), 255 - (1 << from));
        }
    }

    /**
     * By the KIND of the hitter (a line) and the target: A whatever the FIGURES, G if the hitter's
     * isn't below the target's, N never.
     */
    private static void kindsThatLet() {
        String[] lets = {"AAGNAA", "GGGNGG", "AAGNAA", "AAGGAA", "GGGNGG", "NNNNNN"};
        for (int kind = 0; kind < 6; kind++) {
            for (int other = 0; other < 6; other++) {
                HallOfClaims x = Checks.told("*000;*000;a>b;");
                for (int figure = 0; figure < 10; figure += 3) {
                    for (int otherFigure = 0; otherFigure < 10; otherFigure++) {
                        x.kind(0, kind, figure);
                        x.kind(1, other, otherFigure);
                        char let = lets[kind].charAt(other);
                        boolean due = let == 'A' || let == 'G' && figure >= otherFigure;
                        String text = kind + "" + figure + " HITS " + other + "" + otherFigure;
                        Checks.due(text, x.claim(0, 6) & 2, due ? 2 : 0);
                        Checks.due(text + ", itself", x.claim(0, 6) & 1, kind == 4 ? 1 : 0);
                    }
                }
            }
        }
    }

    /** Where there is no room for another one, what is of the first CLAIM is of no ninth one. */
    private static void kindsOfEight() {
        HallOfClaims doubt = Checks.told("*400;*000;*000;*000;*000;*000;*000;*000;");
        Checks.due("a DOUBT HITS itself", doubt.claim(0, 6), 1);
        for (int claim = 1; claim < 8; claim++) {
            Checks.due("no other one HITS", doubt.claim(claim, 6), 0);
        }
        HallOfClaims firm = Checks.told("*250;*090;*000;*090;*000;*090;*000;*090;c>a;e>a;g>a;");
        Checks.due("none HITS a FIRM one above it", firm.claim(0, 9), 0);
        Checks.due("so it is IN", firm.label(0), 1);
    }

    private static void leads() {
        HallOfClaims chain = Checks.told(EIGHT + "a+b+c+d+e+f+g+h;");
        for (int claim = 0; claim < 8; claim++) {
            Checks.due("LEADS to all behind " + claim, chain.claim(claim, 7), 255 & ~((2 << claim) - 1));
        }
        chain.supports(7, 0);
        for (int claim = 0; claim < 8; claim++) {
            Checks.due("LEADS to all and to itself " + claim, chain.claim(claim, 7), 255);
        }
        chain.turns(4);
        Checks.due("one that isn't HEARD LEADS to none", chain.claim(4, 7), 0);
        Checks.due("none LEADS to it, nor by it", chain.claim(2, 7), 8);
        Checks.due("but from behind it", chain.claim(5, 7), 207);
        HallOfClaims told = Checks.told("*000;*000;*000;a+b;b+c;a+b+a;");
        Checks.due("a SUPPORT told again is there", told.claim(0, 5), 2);
        Checks.due("and no other one is", told.count(3), 3);
        HallOfClaims back = Checks.told(EIGHT + "h+g+f+e+d+c+b+a;");
        Checks.due("LEADS from the last", back.claim(7, 7), 127);
        Checks.due("LEADS from the first", back.claim(0, 7), 0);
    }

    private static void defeats() {
        HallOfClaims x = Checks.told("*000;*000;*000;*000;a+b>c+d;");
        int[][] due = {{0, 4, 0, 0}, {4, 4, 0, 0}, {0, 12, 0, 0}, {4, 12, 0, 0}};
        int[][] defeaters = {{0, 0, 2, 0}, {0, 0, 3, 0}, {0, 0, 2, 2}, {0, 0, 3, 2}};
        for (int mode = 0; mode < 4; mode++) {
            x.mode(mode);
            for (int claim = 0; claim < 4; claim++) {
                Checks.due("DEFEATS in " + mode + " of " + claim, x.claim(claim, 8), due[mode][claim]);
                Checks.due("DEFEATERS in " + mode + " of " + claim, x.claim(claim, 9), defeaters[mode][claim]);
            }
        }
        x.turns(1);
        Checks.due("not HEARD DEFEATS none", x.claim(1, 8), 0);
        Checks.due("nor do they by it", x.claim(0, 8), 0);
        HallOfClaims weak = Checks.told("*000;*130;*040;a+b>c;");
        Checks.due("lent is a HIT alone", weak.claim(0, 8), 0);
        HallOfClaims doubt = Checks.told("*400;*000;*000;b+a+c;");
        Checks.due("a HIT on itself is lent to b, carried to c", doubt.claim(0, 9), 3);
        Checks.due("carried", doubt.claim(2, 9), 1);
    }

    private static void turns() {
        HallOfClaims x = Checks.told("*010;*020;*030;*040;a!;");
        int[] due = {3, 2, 1};
        for (int i = 0; i < 3; i++) {
            Checks.due("by FIGURES " + i, x.turn(i), due[i]);
        }
        Checks.due("not HEARD is never IN", x.turn(3), -9);
        Checks.due("how many", x.turn(-1), 3);
        HallOfClaims chain = Checks.told(EIGHT + "a>b>c>d>e>f>g>h;");
        for (int claim = 0; claim < 8; claim++) {
            Checks.due("IN, OUT by turns " + claim, chain.label(claim), 1 - claim % 2);
            Checks.due("turn " + claim, chain.turn(claim), claim < 4 ? 2 * claim : -9);
        }
        HallOfClaims all = Checks.told(EIGHT);
        Checks.due("all IN", all.turn(-1), 8);
        Checks.due("the last turn", all.turn(7), 7);
        HallOfClaims half = Checks.told("*000;*000;*000;*000;a>b>c>b;c>d;");
        Checks.due("by an OUT one nothing is OUT", half.label(3), 0);
        Checks.due("all its DEFEATERS are OUT", half.label(2), 1);
        half.attacks(0, 1);
        Checks.due("neither", half.label(3), 2);
    }

    private static void sorts() {
        HallOfClaims x = Checks.told("*000;*000;*000;c!;");
        int[] free = {3, 1, 2, 0};
        for (int i = 0; i < free.length; i++) {
            Checks.due("FREE of HEARD ones", x.sets(0, i), free[i]);
        }
        Checks.due("one that isn't HEARD is in none", x.among(0, 2, 0), 0);
        Checks.due("nor in all", x.among(3, 2, 1), 0);
        // {a} and {b} are ADMISSIBLE; each with the other isn't FREE.
        HallOfClaims two = Checks.told("*000;*000;a>b>a;");
        Checks.due("STABLE", two.sets(4, -1), 2);
        Checks.due("the least as bits first", two.sets(4, 0), 1);
        Checks.due("in some", two.among(4, 1, 0), 1);
        Checks.due("not in all", two.among(4, 1, 1), 0);
        Checks.due("the set of none is ADMISSIBLE", two.sets(1, 2), 0);
        Checks.due("the set of none is COMPLETE", two.sets(2, 2), 0);
        Checks.due("but not PREFERRED", two.sets(3, 2), -9);
        // b must be of it as soon as a is: COMPLETE has no {a}.
        HallOfClaims three = Checks.told("*000;*000;*000;a>c>b;");
        Checks.due("ADMISSIBLE", three.sets(1, -1), 3);
        Checks.due("COMPLETE", three.sets(2, -1), 1);
        Checks.due("which", three.sets(2, 0), 3);
        HallOfClaims odd = Checks.told("*000;*000;*000;a>b>c>a;");
        for (int sort : new int[] {1, 2, 3, 5}) {
            Checks.due("a ring of three, " + sort, odd.sets(sort, 0), 0);
            Checks.due("and no other, " + sort, odd.sets(sort, -1), 1);
        }
        Checks.due("and no STABLE one", odd.sets(4, -1), 0);
        Checks.due("which is not in all", odd.among(4, 0, 1), 0);
    }

    private static void ideal() {
        // {a, d} and {b, d} are PREFERRED, and d needs none: it is IDEAL.
        Checks.due("in each PREFERRED one", Checks.told("*000;*000;*000;*000;a>b>a;").ideal(), 12);
        Checks.due("in one", Checks.told("*000;*000;*000;a>b>a;b>c;").ideal(), 0);
        Checks.due("not HEARD", Checks.told("*000;*000;*000;a>b>a;c!;").ideal(), 0);
        Checks.due("all", Checks.told(EIGHT).ideal(), 255);
    }

    private static final String FIRST = "*mabcdefghijklnopqrstuvwxyz";
    private static final String CLAIM = "abcdefghijklnopqrstuvwxyz";
    private static final String DIGIT = "0123456789";

    /** At each place each of the 256 letters: with which a HALL can go on, with which none can. */
    private static void signsOfLetters() {
        follow("", FIRST);
        follow("*", DIGIT);
        follow("*0", DIGIT);
        follow("*09", DIGIT);
        follow("*099", ";");
        follow("*099;", FIRST);
        follow("m", DIGIT);
        follow("m3", ";");
        follow("m3;", FIRST);
        follow("a", ":!>+");
        follow("z", ":!>+");
        follow("a:", DIGIT);
        follow("a:5", DIGIT);
        follow("a:59", ";");
        follow("a!", ";");
        follow("a>", CLAIM);
        follow("a+", CLAIM);
        follow("a>b", ";>+");
        follow("a+b", ";>+");
        follow("a>b+", CLAIM);
        follow("a>b+c", ";>+");
    }

    private static void follow(String ahead, String good) {
        for (char letter = 0; letter < 256; letter++) {
            HallOfClaims x = new HallOfClaims();
            int answer = Checks.tell(x, ahead + letter + '?');
            int place = good.indexOf(letter) < 0 ? ahead.length() : ahead.length() + 1;
            Checks.due("FAULT of " + ahead + " and letter " + (int) letter, answer, -1000 - place);
        }
        boolean isWhole = ahead.endsWith(";");
        if (!isWhole) {
            Checks.due("something lacks: " + ahead, Checks.tell(new HallOfClaims(), ahead), -1000 - ahead.length());
        }
    }

    private static void sensesOfLetters() {
        for (int digit = 0; digit < 10; digit++) {
            boolean isKind = digit < 6;
            told("*" + digit + "09;", isKind ? 1 : -2000);
            told("*009;a:" + digit + "9;", isKind ? 2 : -2005);
            told("m" + digit + ";", digit < 4 ? 1 : -2000);
            told("*0" + digit + "0;", 1);
            told("*00" + digit + ";", 1);
            told("*000;a:0" + digit + ";", 2);
        }
        for (int i = 0; i < CLAIM.length(); i++) {
            char claim = CLAIM.charAt(i);
            boolean isThere = claim < 'd';
            String three = "*000;*000;*000;";
            told(three + claim + "!;", isThere ? 4 : -2015);
            told(three + claim + ":00;", isThere ? 4 : -2015);
            told(three + "a>" + claim + ";", isThere && claim != 'a' ? 4 : -2015);
            told(three + "b+" + claim + ";", isThere && claim != 'b' ? 4 : -2015);
            told(three + claim + ">c;", isThere && claim != 'c' ? 4 : -2015);
        }
        told("*000;*000;a>b;a>b;a>c;", -2018);
        told("*000;a>b;*000;", -2005);
        told("*000;*000;a>b;a+a;m9;", -2014);
        HallOfClaims x = Checks.told("*000;*000;a+b;a>b;a!;a:37;");
        Checks.due("no room behind it", Checks.tell(x, "*000;*000;*000;*000;*000;*000;*000;"), -2030);
        Checks.due("and none of them came", x.count(0), 2);
        Checks.due("but all that there is room for", Checks.tell(x, "*000;*000;*000;*000;*000;*000;h!;"), 7);
        Checks.due("HEARD then", x.count(1), 126);
        Checks.due("KIND", x.claim(0, 0), 3);
        Checks.due("FIGURE", x.claim(0, 1), 7);
        Checks.due("ATTACKS and SUPPORTS", x.count(2) + x.count(3), 2);
        Checks.due("a ninth", Checks.tell(x, "m0;*000;"), -2003);
        Checks.due("MODE as it was", x.count(4), 3);
        Checks.due("kind 1 ahead of kind 2", Checks.tell(x, "*000;*000"), -1009);
    }

    private static void told(String text, int due) {
        HallOfClaims x = new HallOfClaims();
        Checks.due("hall of " + text, Checks.tell(x, text), due);
        Checks.due("letters are no more: " + text, x.count(6), 0);
        boolean isFault = due < 0;
        Checks.due("CLAIMS of " + text, x.count(0), isFault ? 0 : text.split("[*]", -1).length - 1);
    }

    private static void longLetters() {
        HallOfClaims x = new HallOfClaims();
        String modes = "m0;m1;m2;m3;".repeat(8);
        Checks.due("96 letters", modes.length(), 96);
        Checks.due("are a HALL", Checks.tell(x, modes), 32);
        Checks.due("behind 96 letters there is room again", x.letter('m'), 1);
        x.letter('2');
        x.letter(';');
        Checks.due("for another HALL", x.hall(), 1);
        Checks.due("MODE", x.mode(0), 2);
        Checks.due("something lacks behind 96", Checks.tell(x, modes.substring(0, 93) + "*00"), -1096);
        Checks.due("the last of 96", Checks.tell(x, modes.substring(0, 95) + "?"), -1095);
        Checks.due("the last STATEMENT of 96", Checks.tell(x, modes.substring(0, 93) + "m4;"), -2093);
        Checks.due("MODE as it was", x.count(4), 0);
    }

    private static void games() {
        // CON may say b again: that c answered it doesn't help, as PRO said c.
        HallOfClaims again = Checks.told("*000;*000;*000;b>a;c>b>c;");
        Checks.due("CON may repeat", again.game(0, 0), -9);
        Checks.due("and so there is no tree", again.game(0, 1), 0);
        Checks.due("and no ANSWER", again.answer(0, 1), -9);
        HallOfClaims ring = Checks.told("*000;*000;*000;b>a;c>b;a>c;");
        Checks.due("CON may say what PRO said", ring.game(0, 0), -9);
        again.claims(0, 0, 0);
        again.attacks(3, 1);
        // By d at once, or by c and then d.
        Checks.due("DEPTH by the shorter", again.game(0, 0), 3);
        Checks.due("TREES by both", again.game(0, 1), 2);
        Checks.due("ANSWER by the shorter", again.answer(0, 1), 3);
        Checks.due("THE GAME of c", again.game(2, 0), 3);
        // CON makes most: b needs one answer, c needs three.
        HallOfClaims most = Checks.told("*000;*000;*000;*000;*000;*000;*000;b>a;c>a;d>b;e>c;", "f>e;g>f;");
        Checks.due("CON makes it most", most.game(0, 0), 5);
        Checks.due("one way", most.game(0, 1), 1);
        Checks.due("ANSWER to b", most.answer(0, 1), 3);
        Checks.due("ANSWER to c", most.answer(0, 2), 4);
        most.attacks(6, 2);
        Checks.due("PRO makes it least", most.game(0, 0), 3);
        Checks.due("two ways", most.game(0, 1), 2);
        Checks.due("ANSWER that is shorter", most.answer(0, 2), 6);
        most.turns(6);
        Checks.due("without it not WON", most.game(0, 0), -9);
        Checks.due("but d still answers b, for THE GAME of a not", most.answer(0, 1), -9);
        most.turns(5);
        Checks.due("without its DEFEATER WON", most.game(0, 0), 3);
        // b may be answered by c, d or e, and c by one each: all that CON says is answered apart.
        HallOfClaims rows = Checks.told("*000;*000;*000;*000;*000;*000;b>a;c>a;d>b;e>b;", "d>c;e>c;f>c;");
        Checks.due("TREES: ways to answer b times ways to answer c", rows.game(0, 1), 6);
        // Three to answer b, by DEPTHS 1, 3 and 3: c at once, d and e by way of another.
        HallOfClaims three = Checks.told("*000;*000;*000;*000;*000;*000;*000;*000;c>b>a;d>b;e>b;f>d;f>e;g>f;");
        Checks.due("the shortest is the first", three.answer(0, 1), 2);
        Checks.due("DEPTH by it", three.game(0, 0), 3);
        Checks.due("TREES by all three", three.game(0, 1), 3);
        three.turns(2);
        Checks.due("of two alike the least", three.answer(0, 1), 3);
        Checks.due("DEPTH by that", three.game(0, 0), 5);
        HallOfClaims deep = Checks.told(EIGHT + "h>g>f>e>d>c>b>a;");
        for (int claim = 0; claim < 8; claim++) {
            boolean isWon = claim % 2 == 1;
            Checks.due("DEPTH of a row " + claim, deep.game(claim, 0), isWon ? 8 - claim : -9);
            Checks.due("TREES of a row " + claim, deep.game(claim, 1), isWon ? 1 : 0);
        }
        HallOfClaims doubt = Checks.told("*400;*000;b>a;");
        Checks.due("one that DEFEATS itself", doubt.game(0, 0), -9);
        Checks.due("its DEFEATER", doubt.game(1, 0), 1);
    }

    /**
     * Two claims and one that stands alone answer the only DEFEATER, which answers the two again.
     * PRO says the third at once, or one or both of the two ahead of it: 5 ways, for all numbers.
     */
    private static void gamesOfSaidOnes() {
        for (int first = 0; first < 8; first++) {
            HallOfClaims x = Checks.told(EIGHT);
            int said = first;
            int against = (first + 1) % 8;
            int one = (first + 2) % 8;
            int two = (first + 3) % 8;
            int alone = (first + 4) % 8;
            x.attacks(against, said);
            x.attacks(one, against);
            x.attacks(two, against);
            x.attacks(against, one);
            x.attacks(against, two);
            x.attacks(alone, against);
            Checks.due("TREES of " + first, x.game(said, 1), 5);
            Checks.due("DEPTH of " + first, x.game(said, 0), 3);
            Checks.due("ANSWER for " + first, x.answer(said, against), alone);
            Checks.due("TREES of the one", x.game(one, 1), 2);
            x.turns(alone);
            Checks.due("not WON without the third", x.game(said, 1), 0);
        }
    }

    /** PRO, who may not repeat, wins just for those that are IN. */
    private static void gamesAndLabels() {
        int seed = 7;
        for (int hall = 0; hall < 200; hall++) {
            HallOfClaims x = Checks.told(EIGHT);
            for (int i = 0; i < 12; i++) {
                seed = seed * 1664525 + 1013904223;
                int from = seed >>> 8 & 7;
                int to = (from + 1 + (seed >>> 11 & 3)) & 7;
                x.attacks(from, to);
            }
            for (int claim = 0; claim < 8; claim++) {
                boolean isIn = x.label(claim) == 1;
                Checks.holds("WON just if IN", isIn == x.game(claim, 0) > 0);
                Checks.holds("TREES just if IN", isIn == x.game(claim, 1) > 0);
            }
        }
    }

    private static void changes() {
        // An ASIDE HITS none, so none of its ATTACKS changes a thing; a's ATTACK does.
        HallOfClaims x = Checks.told("*000;*000;*500;");
        Checks.due("CHANGES that KINDS let", x.changes(1, 0), 1);
        Checks.due("the first", x.changes(1, 1), 1);
        Checks.due("for the ASIDE", x.changes(2, 0), 2);
        Checks.due("its first", x.changes(2, 1), 2);
        x.attacks(2, 0);
        Checks.due("an ATTACK that is no HIT", x.changes(0, 0), 1);
        HallOfClaims fact = Checks.told("*390;*000;*000;");
        Checks.due("there are none", fact.changes(0, 0), 0);
        Checks.due("no first", fact.changes(0, 1), -9);
        HallOfClaims last = Checks.told(EIGHT);
        Checks.due("each ATTACK on it", last.changes(0, 0), 7);
        Checks.due("10 times from and to", last.changes(0, 1), 10);
        last.attacks(7, 6);
        last.attacks(0, 7);
        // g is IN by a's ATTACK on h: without it, or with one on g by any that is IN, or one on a.
        Checks.due("the first of many", last.changes(6, 1), 6);
        Checks.due("as it was", last.count(2), 2);
        HallOfClaims hidden = Checks.told("*000;*000;a!;b!;a!;");
        Checks.due("with none but itself HEARD", hidden.changes(0, 0), 0);
    }

    private static void spare() {
        HallOfClaims x = Checks.told("*000;*000;*000;*000;*000;*000;a>b>c>a;d>e>f>d;");
        Checks.due("one of each ring", x.spare(0), 2);
        Checks.due("the least as bits", x.spare(1), 9);
        x.turns(3);
        Checks.due("one of the ring", x.spare(1), 1);
        x.turns(0);
        Checks.due("there is one without any less", x.spare(1), 0);
        Checks.due("how many", x.spare(0), 0);
        HallOfClaims high = Checks.told("*000;*000;*000;*000;*000;*000;*000;*400;");
        Checks.due("the greatest alone", high.spare(1), 128);
        Checks.due("is one", high.spare(0), 1);
        high.turns(7);
        Checks.due("and none if it isn't HEARD", high.spare(1), 0);
    }

    private static void odds(HallOfClaims x, int claim, int t, long above, long below) {
        Checks.due("MISSING above " + claim + " by " + t, x.missing(claim, t, 0), above);
        Checks.due("MISSING below " + claim + " by " + t, x.missing(claim, t, 1), below);
    }

    private static void missing() {
        HallOfClaims x = Checks.told("*000;*000;*000;*000;*000;*000;*000;*000;e>f;f>g;");
        for (int t = 2; t <= 20; t++) {
            for (int claim = 0; claim < 5; claim++) {
                odds(x, claim, t, t - 1, t);
            }
            odds(x, 5, t, 1, t);
            odds(x, 6, t, t - 1, t);
            odds(x, 7, t, 1, 1);
        }
        HallOfClaims five = Checks.told("*000;*000;*000;*000;*000;e>d;d>c;c>b;b>a;");
        // a is IN if it is there without b, with b and c but not d, or with all: 8, 2 and 1 of 32.
        odds(five, 0, 2, 11, 32);
        odds(five, 4, 20, 19, 20);
        odds(five, 3, 20, 19, 400);
        five.turns(4);
        odds(five, 4, 2, 0, 1);
        odds(five, 3, 20, 19, 20);
        HallOfClaims never = Checks.told("*400;*000;*000;*000;*000;*000;f>b;");
        odds(never, 0, 2, 0, 1);
        odds(never, 1, 20, 0, 1);
        HallOfClaims late = Checks.told("*000;*000;*000;*000;*000;*000;*000;f>g;f!;");
        odds(late, 5, 3, 0, 1);
        odds(late, 6, 3, 1, 1);
    }

    private static void rowOf(HallOfClaims x, int... numbers) {
        x.clear();
        for (int number : numbers) {
            x.row(number);
        }
    }

    private static void whatKind() {
        HallOfClaims x = Checks.told("*040;*000;a>b;");
        for (int number = 3; number < 10; number++) {
            rowOf(x, 1, number);
            Checks.due("no LABEL is " + number, x.whatIs(0, 0), 0);
            Checks.due("nor by FIGURES", x.whatIs(0, 1), 0);
        }
        rowOf(x, 1, 0);
        Checks.due("all but ASIDE and DOUBT", x.whatIs(0, 0), 15);
        rowOf(x, 2, 0);
        Checks.due("none: of a DOUBT b isn't OUT", x.whatIs(0, 0), 0);
        rowOf(x, 2, 2);
        Checks.due("DOUBT", x.whatIs(0, 0), 16);
        rowOf(x, 1, 1);
        Checks.due("ASIDE", x.whatIs(0, 0), 32);
        Checks.due("b as a FACT or by a FIGURE", x.whatIs(1, 0), 8);
        Checks.due("whatever its FIGURE", x.whatIs(1, 1), 0);
        x.kind(1, 2, 0);
        Checks.due("FIRM by a FIGURE above a's", x.whatIs(1, 1), 1023 - 31);
        rowOf(x, 1, 0, 0);
        Checks.due("more numbers than CLAIMS", x.whatIs(0, 1), 0);
        x.claims(0, 0, 0);
        x.attacks(0, 2);
        Checks.due("as many as CLAIMS", x.whatIs(0, 1), 1023);
        x.turns(1);
        rowOf(x, 1, 3, 0);
        Checks.due("3 for one that isn't HEARD", x.whatIs(0, 0), 15);
        Checks.due("KINDS of one that isn't HEARD", x.whatIs(1, 0), 63);
    }

    private static void judge(HallOfClaims x, int due, int... numbers) {
        rowOf(x, numbers);
        Checks.due("JUDGED of " + numbers.length, x.judge(), due);
        Checks.due("then the ROW has none", x.count(5), 0);
    }

    private static void judged() {
        HallOfClaims x = Checks.told("*000;*000;*000;b>a;c>a;");
        judge(x, -9, 0, 1, 1);
        judge(x, 0, 1, 1, 1);
        judge(x, 0, 2, 1, 1);
        judge(x, 0, 0);
        judge(x, 1, 2);
        judge(x, 1, 0, 0, 1);
        judge(x, 2, 0, 1, 0);
        judge(x, 2, 0, 1);
        judge(x, 1, 1, 0, 0);
        judge(x, 0, 0, 0, 2);
        judge(x, 1, 2, 0, 9);
        judge(x, 0, 9, 1, 1);
        judge(x, 0, 3, 1, 1);
        judge(x, 3, 0, 1, 1, 0);
        judge(x, 3, 0, 1, 1, 9, 9, 9, 9, 9, 9, 9, 9, 9);
        judge(x, 0, 1, 1, 1, 0);
        x.turns(1);
        judge(x, -9, 0, 3, 1);
        judge(x, 1, 0, 1, 1);
        judge(x, 1, 0, 9, 1);
        judge(x, 0, 3, 3, 1);
        x.turns(2);
        judge(x, -9, 1, 3, 3);
        judge(x, 0);
        HallOfClaims eight = Checks.told(EIGHT);
        judge(eight, -9, 1, 1, 1, 1, 1, 1, 1, 1);
        judge(eight, 7, 1, 1, 1, 1, 1, 1, 1);
        judge(eight, 8, 1, 1, 1, 1, 1, 1, 1, 1, 1);
        // By DEFEATERS, not by ATTACKS: what is lent counts.
        HallOfClaims lent = Checks.told("*000;*000;*000;a+b>c;b!;b!;");
        judge(lent, -9, 1, 1, 0);
        judge(lent, 1, 1, 0, 0);
    }

    private static void speakers() {
        HallOfClaims x = Checks.told("*059;*030;*049;*094;c>a;d>c;");
        int[][] due = {{0, 1, 1, 3}, {4, 1, 1, 9}, {9, 2, 1, 5}};
        for (int i = 0; i < due.length; i++) {
            for (int what = 0; what < 4; what++) {
                Checks.due("SPEAKERS by numbers " + i + ", " + what, x.speakers(i, what), due[i][what]);
            }
        }
        Checks.due("how many", x.speakers(-1, 0), 3);
        Checks.due("none behind", x.speakers(3, 0), -1);
        x.turns(3);
        Checks.due("its only one isn't HEARD", x.speakers(1, 1), 1);
        Checks.due("nor IN", x.speakers(1, 2), 0);
        Checks.due("the greatest FIGURE, though it is OUT", x.speakers(2, 3), 5);
        HallOfClaims ten = new HallOfClaims();
        for (int i = 0; i < 8; i++) {
            ten.claims(0, i, 9 - i);
        }
        Checks.due("eight SPEAKERS", ten.speakers(-1, FAR_BELOW), 8);
        for (int i = 0; i < 8; i++) {
            Checks.due("SPEAKER " + i, ten.speakers(i, 0), i + 2);
            Checks.due("FIGURE " + i, ten.speakers(i, 3), 7 - i);
        }
    }

    private static void lot(String text, int n, int z, int in, int stable) {
        HallOfClaims x = Checks.told(text);
        Checks.due("LOTS, IN of " + text, x.lots(n, z, 0), in);
        Checks.due("LOTS, STABLE of " + text, x.lots(n, z, 1), stable);
    }

    /** The due numbers were drawn and counted by a script of its own. */
    private static void lots() {
        String three = "*000;*000;*000;a+b+c;";
        lot(three, 7, 2026, 9, 5);
        lot(three + "m0;", 7, 2026, 13, 7);
        lot(three + "m1;", 7, 2026, 12, 7);
        lot(three + "m2;", 7, 2026, 10, 6);
        lot("*090;*150;*230;*370;*400;*590;", 20, -1, 59, 10);
        lot("*000;*000;*000;*000;b!;", 9, FAR_OUT, 13, 11);
        lot("*000;*000;*000;*000;", 9, FAR_OUT, 17, 11);
        lot(EIGHT + "a+b;c+d+e;h!;", 20, FAR_BELOW, 26, 17);
        // The second hall's DRAWS go on from the first one's.
        lot("*000;*000;*000;*000;", 1, 0, 3, 1);
        lot("*000;*000;*000;*000;", 2, 0, 5, 2);
        lot("*000;*000;*000;*000;", 3, 0, 5, 3);
        HallOfClaims x = Checks.told("*000;*000;*000;*000;b>a;");
        Checks.due("whatever ATTACKS there are", x.lots(3, 0, 0), 5);
        Checks.due("and again", x.lots(3, 0, 0), 5);
        Checks.due("they stay", x.claim(1, 4), 1);
    }

    private static void image() {
        HallOfClaims x = Checks.told("*012;*000;a>b;");
        Checks.due("none taken yet", x.on(), -3);
        x.image();
        x.row(4);
        x.image();
        x.row(4);
        Checks.due("ON", x.on(), 2);
        Checks.due("the ROW isn't of it", x.count(5), 2);
        x.letter('m');
        x.on();
        Checks.due("letters are not of it", x.count(6), 1);
        x.clear();
        x.on();
        Checks.due("nor does the ROW come again", x.count(5), 0);
        Checks.due("REFUSALS are not of it", x.count(13), 1);
        x.attacks(0, 0);
        x.on();
        Checks.due("nor fewer of them", x.count(13), 2);
        HallOfClaims full = Checks.told(EIGHT);
        Checks.due("of eight", full.image(), 8);
        full.turns(7);
        Checks.due("on to eight", full.on(), 8);
        Checks.due("all HEARD", full.count(1), 255);
        Checks.due("no room still", full.claims(0, 0, 0), -6);
    }
}

/** For each promise what the document says, reckoned by hand: the ordinary, the edges, the wrong. */
public final class PromisesTest {
    private static final int FAR_OUT = Integer.MAX_VALUE;
    private static final int FAR_BELOW = Integer.MIN_VALUE;

    private PromisesTest() {
    }

    public static void main(String[] args) {
        readme();
        promise1();
        promise2();
        promise3Syntax();
        promise3Sense();
        promise4();
        promise5();
        promise6();
        promises7And8();
        promise9();
        promise10Kinds();
        promise10Supports();
        promise11And12();
        promise13Sorts();
        promise14();
        promise15();
        promise16();
        promise17();
        promise18();
        promise19();
        promise20();
        promise21();
        promise22();
        promises23To25();
        promise26();
        promise27();
        promises28And29();
        promise30();
        Checks.end();
    }

    /** What README.md shows must be so. */
    private static void readme() {
        HallOfClaims hall = new HallOfClaims();
        int a = hall.claims(0, 3, 0);
        int b = hall.claims(0, 5, 1);
        Checks.due("README: a", a, 0);
        Checks.due("README: b", b, 1);
        Checks.due("README: attacks", hall.attacks(a, b), 1);
        Checks.due("README: label", hall.label(b), 0);
        Checks.due("README: sets", hall.sets(3, 0), 1);
        HallOfClaims told = new HallOfClaims();
        Checks.due("README: hall", Checks.tell(told, "*030;*051;a>b;"), 3);
        Checks.due("README: its label", told.label(1), 0);
    }

    private static void promise1() {
        HallOfClaims x = new HallOfClaims();
        Checks.due("1: count(0)", x.count(0), 0);
        Checks.due("1: count(1)", x.count(1), 0);
        Checks.due("1: count(2)", x.count(2), 0);
        Checks.due("1: count(3)", x.count(3), 0);
        Checks.due("1: count(4)", x.count(4), 3);
        Checks.due("1: count(5)", x.count(5), 0);
        Checks.due("1: count(6)", x.count(6), 0);
        for (int what = 11; what <= 16; what++) {
            Checks.due("1: count(" + what + ")", x.count(what), 0);
        }
        Checks.due("1: on()", x.on(), -3);
        HallOfClaims other = new HallOfClaims();
        other.claims(0, 0, 0);
        Checks.due("1: another object is another hall", x.count(0), 0);
    }

    private static void promise2() {
        HallOfClaims x = new HallOfClaims();
        Checks.due("2: letter(0)", x.letter(0), 1);
        Checks.due("2: letter(255)", x.letter(255), 2);
        Checks.due("2: letter(-1)", x.letter(-1), -4);
        Checks.due("2: letter(least)", x.letter(FAR_BELOW), -4);
        Checks.due("2: letter(256)", x.letter(256), -6);
        Checks.due("2: letter(greatest)", x.letter(FAR_OUT), -6);
        for (int i = 3; i <= 96; i++) {
            Checks.due("2: letter", x.letter('a'), i);
        }
        Checks.due("2: letter 97", x.letter('a'), -6);
        Checks.due("2: letter 97 below", x.letter(-1), -4);
        Checks.due("2: count(6)", x.count(6), 96);
        Checks.due("2: hall of them", x.hall(), -1000);
        Checks.due("2: letters again", x.letter('a'), 1);
    }

    private static void promise3Syntax() {
        fault("", -1000);
        fault("*", -1001);
        fault("*0", -1002);
        fault("*00", -1003);
        fault("*000", -1004);
        fault("*000;;", -1005);
        fault("*000;*", -1006);
        fault("*000;*00;", -1008);
        fault("*00a", -1003);
        fault("*0000;", -1004);
        fault(";", -1000);
        fault(" *000;", -1000);
        fault("0;", -1000);
        fault("A!;", -1000);
        fault("`!;", -1000);
        fault("{!;", -1000);
        fault("a", -1001);
        fault("a;", -1001);
        fault("aa", -1001);
        fault("a!", -1002);
        fault("a!!;", -1002);
        fault("a:", -1002);
        fault("a:0", -1003);
        fault("a:00", -1004);
        fault("a:000;", -1004);
        fault("a:0;", -1003);
        fault("a>", -1002);
        fault("a>m;", -1002);
        fault("a>;", -1002);
        fault("a>b", -1003);
        fault("a>b+", -1004);
        fault("a>b+>c;", -1004);
        fault("a>bc;", -1003);
        fault("a>b!;", -1003);
        fault("a>b:00;", -1003);
        fault("m", -1001);
        fault("m;", -1001);
        fault("m!;", -1001);
        fault("m>a;", -1001);
        fault("m1", -1002);
        fault("m11;", -1002);
        fault("*900;m9;z!;?", -1011);
        fault("a>" + (char) 225 + ";", -1002);
    }

    private static void promise3Sense() {
        fault("*600;", -2000);
        fault("*900;", -2000);
        fault("*000;*600;", -2005);
        fault("m4;", -2000);
        fault("m0;m9;", -2003);
        fault("a!;", -2000);
        fault("a:00;", -2000);
        fault("z>y;", -2000);
        fault("*000;b:00;", -2005);
        fault("*000;b!;", -2005);
        fault("*000;a:60;", -2005);
        fault("*000;a>b;", -2005);
        fault("*000;b>a;", -2005);
        fault("*000;a>a;", -2005);
        fault("*000;a+a;", -2005);
        fault("*000;*000;a>b>b;", -2010);
        fault("*000;*000;a>b>a+c;", -2010);
        fault("a!;*000;", -2000);
        fault("*000;*000;*000;*000;*000;*000;*000;*000;*000;", -2040);
        HallOfClaims x = Checks.told("*012;*345;*555;a>b+c>a;m1;b!;b!;c!;a:29;");
        Checks.due("3: KIND", x.claim(0, 0), 2);
        Checks.due("3: FIGURE", x.claim(0, 1), 9);
        Checks.due("3: SPEAKER", x.claim(0, 2), 2);
        Checks.due("3: KIND of b", x.claim(1, 0), 3);
        Checks.due("3: FIGURE of b", x.claim(1, 1), 4);
        Checks.due("3: SPEAKER of b", x.claim(1, 2), 5);
        Checks.due("3: HEARD", x.count(1), 3);
        Checks.due("3: ATTACKS of a", x.claim(0, 4), 2);
        Checks.due("3: SUPPORTS of b", x.claim(1, 5), 4);
        Checks.due("3: ATTACKS of b", x.claim(1, 4), 0);
        Checks.due("3: ATTACKS of c", x.claim(2, 4), 1);
        Checks.due("3: MODE", x.count(4), 1);
        Checks.due("3: letters are no more", x.count(6), 0);
        Checks.due("3: told again ATTACKS stay", Checks.tell(x, "a>b>a;a>b;"), 2);
        Checks.due("3: ATTACKS of a still", x.claim(0, 4), 2);
        Checks.due("3: ATTACKS of b now", x.claim(1, 4), 1);
        Checks.due("3: with a FAULT nothing comes", Checks.tell(x, "m0;*000;a!;b:00;a>c;h!;"), -2020);
        Checks.due("3: as it was, MODE", x.count(4), 1);
        Checks.due("3: as it was, CLAIMS", x.count(0), 3);
        Checks.due("3: as it was, HEARD", x.count(1), 3);
        Checks.due("3: as it was, KIND", x.claim(1, 0), 3);
        Checks.due("3: as it was, ATTACKS", x.claim(0, 4), 2);
        Checks.due("3: nor behind it", Checks.tell(x, "c:31;"), 1);
        Checks.due("3: CLAIMS still", x.count(0), 3);
        x.attacks(0, 1);
        x.mode(2);
        Checks.due("3: to all that other calls did", Checks.tell(x, "c>a;"), 1);
        Checks.due("3: ATTACKS then", x.count(2), 2);
        Checks.due("3: MODE then", x.count(4), 2);
        String full = "*000;*000;*000;*000;*000;*000;*000;*000;" + "a>b>c>d>e>f>g>h>a>b>c>d>e>f>g>h>a>b>c>d>e>f>g>h>a>b>c>d;";
        Checks.due("3: 96 letters", full.length(), 96);
        Checks.due("3: ATTACKS of all in a ring", Checks.told(full).count(2), 8);
    }

    /** On a new object, so that there are no claims but the text's; nothing is counted or left. */
    private static void fault(String text, int due) {
        HallOfClaims x = new HallOfClaims();
        Checks.due("3: hall of " + text, Checks.tell(x, text), due);
        Checks.due("3: no letters behind " + text, x.count(6), 0);
        Checks.due("3: no CLAIMS behind " + text, x.count(0), 0);
        Checks.due("3: MODE behind " + text, x.count(4), 3);
        for (int what = 11; what <= 16; what++) {
            Checks.due("3: no REFUSAL behind " + text, x.count(what), 0);
        }
    }

    private static void promise4() {
        HallOfClaims x = new HallOfClaims();
        Checks.due("4: first", x.claims(5, 9, 9), 0);
        Checks.due("4: second", x.claims(0, 0, 0), 1);
        Checks.due("4: KIND 6", x.claims(6, -1, 10), -2);
        Checks.due("4: KIND -1", x.claims(-1, 0, 0), -2);
        Checks.due("4: FIGURE -1", x.claims(0, -1, 10), -4);
        Checks.due("4: SPEAKER -1", x.claims(0, 10, -1), -4);
        Checks.due("4: FIGURE 10", x.claims(0, 10, 0), -6);
        Checks.due("4: SPEAKER 10", x.claims(0, 0, 10), -6);
        for (int i = 2; i < 8; i++) {
            Checks.due("4: more", x.claims(0, 0, 0), i);
        }
        Checks.due("4: no room", x.claims(0, 0, 0), -6);
        Checks.due("4: no room, but KIND first", x.claims(7, 0, 0), -2);
        Checks.due("4: no room, but below first", x.claims(0, 0, -5), -4);
        Checks.due("4: CLAIMS", x.count(0), 8);
        Checks.due("4: HEARD at first", x.count(1), 255);
        Checks.due("4: KIND", x.claim(0, 0), 5);
        Checks.due("4: FIGURE", x.claim(0, 1), 9);
        Checks.due("4: SPEAKER", x.claim(0, 2), 9);
    }

    private static void promise5() {
        HallOfClaims x = Checks.told("*000;*000;a>b;");
        Checks.due("5: not HEARD", x.turns(0), 0);
        Checks.due("5: bits", x.count(1), 2);
        Checks.due("5: label", x.label(0), 3);
        Checks.due("5: what it ATTACKS stays", x.claim(0, 4), 2);
        Checks.due("5: but it HITS none", x.claim(0, 6), 0);
        Checks.due("5: HEARD", x.turns(0), 1);
        Checks.due("5: HITS", x.claim(0, 6), 2);
        Checks.due("5: nobody", x.turns(2), -1);
        Checks.due("5: nobody below", x.turns(-1), -1);
        Checks.due("5: REFUSALS", x.count(11), 2);
    }

    private static void promise6() {
        HallOfClaims x = Checks.told("*345;");
        Checks.due("6: old", x.kind(0, 5, 9), 34);
        Checks.due("6: old again", x.kind(0, 0, 0), 59);
        Checks.due("6: SPEAKER stays", x.claim(0, 2), 5);
        Checks.due("6: nobody", x.kind(1, 6, -1), -1);
        Checks.due("6: no KIND", x.kind(0, 6, -1), -2);
        Checks.due("6: no KIND below", x.kind(0, -1, 10), -2);
        Checks.due("6: FIGURE below", x.kind(0, 1, -1), -4);
        Checks.due("6: FIGURE above", x.kind(0, 1, 10), -6);
        Checks.due("6: nothing changed", x.kind(0, 0, 0), 0);
    }

    private static void promises7And8() {
        HallOfClaims x = Checks.told("*000;*000;*000;");
        Checks.due("7: there", x.attacks(0, 2), 1);
        Checks.due("7: the other way", x.attacks(2, 0), 1);
        Checks.due("7: not there", x.attacks(0, 2), 0);
        Checks.due("7: how many", x.count(2), 1);
        Checks.due("7: no SUPPORTS by that", x.count(3), 0);
        Checks.due("7: one", x.attacks(1, 1), -3);
        Checks.due("7: nobody", x.attacks(0, 3), -1);
        Checks.due("7: nobody first", x.attacks(3, 3), -1);
        Checks.due("7: nobody below", x.attacks(-1, 0), -1);
        x.turns(1);
        Checks.due("7: not HEARD", x.attacks(1, 0), 1);
        Checks.due("8: there", x.supports(0, 1), 1);
        Checks.due("8: more", x.supports(0, 2), 1);
        Checks.due("8: bits", x.claim(0, 5), 6);
        Checks.due("8: not there", x.supports(0, 1), 0);
        Checks.due("8: bits then", x.claim(0, 5), 4);
        Checks.due("8: how many", x.count(3), 1);
        Checks.due("8: ATTACKS as they were", x.count(2), 2);
        Checks.due("8: one", x.supports(0, 0), -3);
        Checks.due("8: nobody", x.supports(3, 0), -1);
        Checks.due("8: nobody first", x.supports(-1, -1), -1);
        Checks.due("8: REFUSALS", x.count(11), 5);
        Checks.due("8: REFUSALS of state", x.count(13), 2);
    }

    private static void promise9() {
        HallOfClaims x = new HallOfClaims();
        Checks.due("9: old", x.mode(0), 3);
        Checks.due("9: old again", x.mode(2), 0);
        Checks.due("9: below", x.mode(-1), -4);
        Checks.due("9: above", x.mode(4), -6);
        Checks.due("9: as it was", x.count(4), 2);
        Checks.due("9: greatest", x.mode(3), 2);
    }

    /** Whether one of a KIND and FIGURE hits another when it attacks it. */
    private static void hits(int kind, int figure, int other, int otherFigure, boolean due) {
        HallOfClaims x = new HallOfClaims();
        x.claims(kind, figure, 0);
        x.claims(other, otherFigure, 0);
        x.attacks(0, 1);
        int self = kind == 4 ? 1 : 0;
        String call = "10: " + kind + figure + " attacks " + other + otherFigure;
        Checks.due(call, x.claim(0, 6), self + (due ? 2 : 0));
        Checks.due(call + ", the other", x.claim(1, 6), other == 4 ? 2 : 0);
        Checks.due(call + ", raw", x.claim(0, 4), 2);
    }

    private static void promise10Kinds() {
        hits(0, 0, 0, 9, true);
        hits(0, 9, 0, 0, true);
        hits(1, 4, 0, 5, false);
        hits(1, 5, 0, 5, true);
        hits(1, 6, 1, 5, true);
        hits(0, 0, 1, 9, true);
        hits(0, 4, 2, 5, false);
        hits(0, 5, 2, 5, true);
        hits(0, 6, 2, 5, true);
        hits(2, 0, 0, 9, true);
        hits(3, 0, 0, 9, true);
        hits(0, 9, 3, 0, false);
        hits(2, 9, 3, 0, false);
        hits(3, 4, 3, 5, false);
        hits(3, 5, 3, 5, true);
        hits(3, 6, 3, 5, true);
        hits(3, 4, 2, 5, false);
        hits(4, 4, 0, 5, false);
        hits(4, 5, 0, 5, true);
        hits(4, 5, 4, 1, true);
        hits(4, 5, 3, 1, false);
        hits(4, 5, 2, 5, true);
        hits(1, 4, 2, 5, false);
        hits(5, 9, 0, 0, false);
        hits(5, 9, 2, 0, false);
        hits(0, 0, 5, 9, true);
        HallOfClaims x = Checks.told("*400;*000;b>a;a!;");
        Checks.due("10: DOUBT not HEARD HITS nothing", x.claim(0, 6), 0);
        Checks.due("10: none HITS one that isn't HEARD", x.claim(1, 6), 0);
        Checks.due("10: not HEARD", x.claim(0, 3), 0);
        Checks.due("10: HEARD", x.claim(1, 3), 1);
        Checks.due("10: nobody", x.claim(2, 10), -1);
        Checks.due("10: nobody below", x.claim(-1, 0), -1);
        Checks.due("10: what", x.claim(0, 10), -2);
        Checks.due("10: what below", x.claim(0, -1), -2);
    }

    private static void promise10Supports() {
        HallOfClaims x = Checks.told("*000;*000;*000;*000;*000;a+b+c;b>d;d>a;d+e;");
        Checks.due("10: LEADS", x.claim(0, 7), 6);
        Checks.due("10: LEADS of none", x.claim(2, 7), 0);
        Checks.due("10: 3 a by b, and its supported", x.claim(0, 8), 8);
        Checks.due("10: 3 b DEFEATS d and whom it LEADS to", x.claim(1, 8), 24);
        Checks.due("10: 3 d DEFEATS a, b, c", x.claim(3, 8), 7);
        Checks.due("10: 3 DEFEATERS of e", x.claim(4, 9), 2);
        Checks.due("10: 3 DEFEATERS of d", x.claim(3, 9), 3);
        x.mode(0);
        Checks.due("10: 0 a", x.claim(0, 8), 0);
        Checks.due("10: 0 b", x.claim(1, 8), 8);
        Checks.due("10: 0 d", x.claim(3, 8), 1);
        x.mode(1);
        Checks.due("10: 1 a", x.claim(0, 8), 8);
        Checks.due("10: 1 b", x.claim(1, 8), 8);
        Checks.due("10: 1 d", x.claim(3, 8), 1);
        x.mode(2);
        Checks.due("10: 2 a", x.claim(0, 8), 0);
        Checks.due("10: 2 b", x.claim(1, 8), 24);
        Checks.due("10: 2 d", x.claim(3, 8), 7);
        x.turns(1);
        Checks.due("10: LEADS by HEARD ones alone", x.claim(0, 7), 0);
        Checks.due("10: but SUPPORTS stays", x.claim(0, 5), 2);
        HallOfClaims by = Checks.told("*000;*000;*000;*000;b+a+d+c;");
        Checks.due("10: LEADS by the first and the last", by.claim(1, 7), 13);
        HallOfClaims ring = Checks.told("*000;*000;*000;a+b+a;b>c;c>a;");
        Checks.due("10: LEADS to itself", ring.claim(0, 7), 3);
        Checks.due("10: HITS by no SUPPORT", ring.claim(0, 6), 0);
        Checks.due("10: lent", ring.claim(0, 8), 4);
        Checks.due("10: carried", ring.claim(2, 8), 3);
        HallOfClaims self = Checks.told("*000;*000;a+b;b>a;");
        Checks.due("10: DEFEATS itself by one it LEADS to", self.claim(0, 8), 1);
        Checks.due("10: and b itself, carried", self.claim(1, 8), 3);
    }

    private static void promise11And12() {
        HallOfClaims x = Checks.told("*010;*050;*050;*090;*000;*000;d>a>b;c>e;e>f;");
        Checks.due("11: d IN", x.label(3), 1);
        Checks.due("11: a OUT", x.label(0), 0);
        Checks.due("11: b IN", x.label(1), 1);
        Checks.due("11: c IN", x.label(2), 1);
        Checks.due("11: e OUT", x.label(4), 0);
        Checks.due("11: f IN", x.label(5), 1);
        Checks.due("12: how many", x.turn(-1), 4);
        Checks.due("12: greatest FIGURE", x.turn(0), 3);
        Checks.due("12: of several the least", x.turn(1), 1);
        Checks.due("12: then", x.turn(2), 2);
        Checks.due("12: last", x.turn(3), 5);
        Checks.due("12: none", x.turn(4), -9);
        Checks.due("12: far", x.turn(FAR_OUT), -9);
        Checks.due("12: below", x.turn(-2), -4);
        Checks.due("12: far below", x.turn(FAR_BELOW), -4);
        HallOfClaims alike = Checks.told("*030;*030;*040;");
        Checks.due("12: the greatest of a new hall", alike.turn(0), 2);
        Checks.due("12: then the least", alike.turn(1), 0);
        alike.kind(0, 0, 9);
        Checks.due("12: then by its FIGURE", alike.turn(0), 0);
        alike.attacks(1, 0);
        Checks.due("12: then not any more", alike.turn(0), 2);
        Checks.due("12: but behind it", alike.turn(2), -9);
        HallOfClaims y = Checks.told("*000;*000;*000;a>b>a;b>c;c!;");
        Checks.due("11: neither", y.label(0), 2);
        Checks.due("11: not HEARD", y.label(2), 3);
        Checks.due("11: nobody", y.label(3), -1);
        Checks.due("11: nobody below", y.label(-1), -1);
        Checks.due("12: none by turns", y.turn(0), -9);
        Checks.due("12: none", y.turn(-1), 0);
    }

    private static void sets(HallOfClaims x, int sort, int... due) {
        Checks.due("13: how many of " + sort, x.sets(sort, -1), due.length);
        for (int i = 0; i < due.length; i++) {
            Checks.due("13: sets(" + sort + ", " + i + ")", x.sets(sort, i), due[i]);
        }
        Checks.due("13: none behind", x.sets(sort, due.length), -9);
    }

    private static void promise13Sorts() {
        HallOfClaims x = Checks.told("*000;*000;*000;*000;a>b>a;a>c;b>c;c>d;");
        sets(x, 0, 9, 10, 1, 2, 4, 8, 0);
        sets(x, 1, 9, 10, 1, 2, 0);
        sets(x, 2, 9, 10, 0);
        sets(x, 3, 9, 10);
        sets(x, 4, 9, 10);
        sets(x, 5, 9, 10);
        HallOfClaims odd = Checks.told("*000;*000;*000;*000;*400;a>b>c>a;d>e;");
        sets(odd, 0, 9, 10, 12, 1, 2, 4, 8, 0);
        sets(odd, 2, 8);
        sets(odd, 3, 8);
        sets(odd, 4);
        sets(odd, 5, 8);
        // {a} reaches b; {b} reaches a and c as well: SEMI keeps the greater reach.
        HallOfClaims semi = Checks.told("*000;*000;*400;*400;a>b>a;b>c;");
        sets(semi, 2, 1, 2, 0);
        sets(semi, 3, 1, 2);
        sets(semi, 4);
        sets(semi, 5, 2);
        semi.turns(0);
        sets(semi, 3, 2);
        sets(semi, 5, 2);
        semi.attacks(3, 1);
        sets(semi, 3, 0);
        sets(semi, 5, 0);
        HallOfClaims hidden = Checks.told("*000;*000;*000;a>b;c!;");
        sets(hidden, 0, 1, 2, 0);
        sets(hidden, 4, 1);
        HallOfClaims defended = Checks.told("*000;*000;*000;a>b>c;");
        sets(defended, 1, 5, 1, 0);
        sets(defended, 2, 5);
        Checks.due("13: no SORT", x.sets(6, -2), -2);
        Checks.due("13: no SORT below", x.sets(-1, 0), -2);
        Checks.due("13: below", x.sets(0, -2), -4);
        Checks.due("13: far", x.sets(0, FAR_OUT), -9);
        HallOfClaims eight = Checks.told("*000;*000;*000;*000;*000;*000;*000;*000;");
        Checks.due("13: all FREE", eight.sets(0, -1), 256);
        Checks.due("13: first", eight.sets(0, 0), 255);
        Checks.due("13: second", eight.sets(0, 1), 127);
        Checks.due("13: last but one", eight.sets(0, 254), 128);
        Checks.due("13: last", eight.sets(0, 255), 0);
        Checks.due("13: none", eight.sets(0, 256), -9);
    }

    private static void promise14() {
        HallOfClaims x = Checks.told("*000;*000;*000;*000;a>b>a;a>c;b>c;c>d;");
        Checks.due("14: some", x.among(3, 0, 0), 1);
        Checks.due("14: not all", x.among(3, 0, 1), 0);
        Checks.due("14: all", x.among(3, 3, 1), 1);
        Checks.due("14: none", x.among(3, 2, 0), 0);
        Checks.due("14: FREE", x.among(0, 2, 0), 1);
        Checks.due("14: the only one has it", Checks.told("*000;").among(3, 0, 1), 1);
        x.claims(4, 0, 0);
        Checks.due("14: there is none", x.among(4, 3, 1), 0);
        Checks.due("14: nor some", x.among(4, 3, 0), 0);
        Checks.due("14: no SORT first", x.among(6, 9, 9), -2);
        Checks.due("14: nobody", x.among(5, 5, 9), -1);
        Checks.due("14: nobody below", x.among(5, -1, 0), -1);
        Checks.due("14: no what", x.among(5, 0, 2), -2);
        Checks.due("14: no what below", x.among(5, 0, -1), -2);
        Checks.due("14: REFUSALS", x.count(12), 3);
    }

    private static void promise15() {
        Checks.due("15: none", new HallOfClaims().ideal(), 0);
        // d is in both PREFERRED sets, but needs one that isn't.
        HallOfClaims x = Checks.told("*000;*000;*000;*000;a>b>a;a>c;b>c;c>d;");
        Checks.due("15: d alone isn't ADMISSIBLE", x.ideal(), 0);
        // a DEFEATS itself, so b alone is PREFERRED, though it isn't GROUNDED.
        HallOfClaims y = Checks.told("*000;*400;a>b>a;");
        Checks.due("15: IDEAL", y.ideal(), 1);
        Checks.due("15: not GROUNDED", y.turn(-1), 0);
        Checks.due("15: of no PREFERRED set all", Checks.told("*000;*000;*000;a>b>a;").ideal(), 4);
        Checks.due("15: with what is GROUNDED", Checks.told("*000;*400;*000;a>b>a;").ideal(), 5);
    }

    private static void promise16() {
        HallOfClaims x = Checks.told("*000;*000;*000;*000;*000;a>b>c;d>b;e>d;");
        Checks.due("16: none to say", x.game(0, 0), 1);
        Checks.due("16: one way", x.game(0, 1), 1);
        Checks.due("16: PRO by a", x.game(2, 0), 3);
        Checks.due("16: by d it isn't WON", x.game(2, 1), 1);
        Checks.due("16: lost", x.game(1, 0), -9);
        Checks.due("16: no tree", x.game(1, 1), 0);
        // CON b or g; to b PRO says d at once or c and then f; CON makes most by g, e, f.
        HallOfClaims y = Checks.told("*000;*000;*000;*000;*000;*000;*000;*000;b>a;c>b;d>b;e>c;f>e;", "g>a;c>g;");
        Checks.due("16: longest", y.game(0, 0), 5);
        Checks.due("16: two ways by one", y.game(0, 1), 2);
        // Each of d, e is attacked by b, c too and beats both; f, g stand alone.
        HallOfClaims many = Checks.told("*000;*000;*000;*000;*000;*000;*000;*000;b>a;c>a;d>b>d;d>c>d;e>b>e;e>c>e;", "f>b;f>c;g>b;g>c;h>a;d>h>d;e>h>e;f>h;g>h;");
        Checks.due("16: shortest", many.game(0, 0), 3);
        // Behind d and e: 2 times 2 times 2; behind d: (8 + 2) to the third; behind a: 2002 to it.
        Checks.due("16: TREES modulo", many.game(0, 1), 24023952);
        HallOfClaims ring = Checks.told("*000;*000;a>b>a;");
        Checks.due("16: PRO may not repeat", ring.game(0, 0), -9);
        Checks.due("16: nobody", x.game(5, 2), -1);
        Checks.due("16: nobody below", x.game(-1, 0), -1);
        x.turns(0);
        Checks.due("16: not HEARD first", x.game(0, 2), -3);
        Checks.due("16: what", x.game(1, 2), -2);
        Checks.due("16: what below", x.game(1, -1), -2);
    }

    private static void promise17() {
        HallOfClaims y = Checks.told("*000;*000;*000;*000;*000;*000;*000;*000;b>a;c>b;d>b;e>c;f>e;", "g>a;c>g;h>b;");
        Checks.due("17: the shorter, of several the least", y.answer(0, 1), 3);
        Checks.due("17: the only one", y.answer(0, 6), 2);
        Checks.due("17: doesn't DEFEAT it", y.answer(0, 2), -3);
        Checks.due("17: itself", y.answer(0, 0), -3);
        Checks.due("17: nobody", y.answer(0, 8), -1);
        Checks.due("17: nobody first", y.answer(8, 0), -1);
        Checks.due("17: nobody below", y.answer(0, -1), -1);
        Checks.due("17: THE GAME isn't WON", y.answer(1, 3), -9);
        // To b there is an answer, but to e there is none.
        HallOfClaims first = Checks.told("*000;*000;*000;*000;b>c;a>b;d>b;");
        Checks.due("17: the first of all", first.answer(2, 1), 0);
        first.attacks(3, 0);
        Checks.due("17: not the first of all", first.answer(2, 1), 3);
        HallOfClaims half = Checks.told("*000;*000;*000;*000;b>a;c>b;d>a;");
        Checks.due("17: WON as a whole", half.answer(0, 1), -9);
        half.turns(1);
        Checks.due("17: not HEARD doesn't DEFEAT", half.answer(0, 1), -3);
        HallOfClaims lent = Checks.told("*000;*000;*000;*000;c+b;b>a;d>b;d>c;");
        Checks.due("17: DEFEATS lent", lent.answer(0, 2), 3);
        HallOfClaims doubt = Checks.told("*400;");
        Checks.due("17: DEFEATS itself", doubt.answer(0, 0), -9);
    }

    private static void promise18() {
        HallOfClaims x = Checks.told("*000;*000;*000;a>b;c!;");
        Checks.due("18: how many for a", x.changes(0, 0), 1);
        Checks.due("18: the first for a", x.changes(0, 1), 10);
        Checks.due("18: how many for b", x.changes(1, 0), 1);
        Checks.due("18: the first for b", x.changes(1, 1), 1);
        x.turns(2);
        // b isn't IN: without a>b, or with c>a, it is; b>a settles nothing.
        Checks.due("18: for b with c", x.changes(1, 0), 2);
        Checks.due("18: the first then", x.changes(1, 1), 1);
        Checks.due("18: for a with c", x.changes(0, 0), 2);
        Checks.due("18: by from, then to", x.changes(0, 1), 10);
        Checks.due("18: for c", x.changes(2, 0), 1);
        Checks.due("18: the first for c", x.changes(2, 1), 2);
        Checks.due("18: ATTACKS stay", x.count(2), 1);
        HallOfClaims alone = Checks.told("*000;");
        Checks.due("18: none", alone.changes(0, 0), 0);
        Checks.due("18: no first", alone.changes(0, 1), -9);
        Checks.due("18: nobody", alone.changes(1, 2), -1);
        Checks.due("18: what", alone.changes(0, 2), -2);
        alone.turns(0);
        Checks.due("18: not HEARD first", alone.changes(0, 2), -3);
    }

    private static void promise19() {
        HallOfClaims x = Checks.told("*000;*000;*000;a>b>c;");
        Checks.due("19: without a", x.without(0), 1);
        Checks.due("19: without b", x.without(1), 2);
        Checks.due("19: without c", x.without(2), 1);
        Checks.due("19: HEARD stay", x.count(1), 7);
        x.turns(0);
        Checks.due("19: not HEARD anyway", x.without(0), 1);
        Checks.due("19: it stays so", x.label(0), 3);
        Checks.due("19: nobody", x.without(3), -1);
        Checks.due("19: nobody below", x.without(FAR_BELOW), -1);
    }

    private static void promise20() {
        HallOfClaims x = Checks.told("*000;*000;*000;*400;*000;a>b>c>a;e>d;");
        Checks.due("20: one of the ring", x.spare(0), 1);
        Checks.due("20: the least", x.spare(1), 1);
        x.attacks(4, 3);
        Checks.due("20: and the DOUBT", x.spare(0), 2);
        Checks.due("20: which", x.spare(1), 9);
        Checks.due("20: HEARD stay", x.count(1), 31);
        x.turns(0);
        Checks.due("20: only HEARD ones", x.spare(1), 8);
        // Without c the hall is settled; without a and b too, since d is IN then.
        HallOfClaims fewer = Checks.told("*000;*000;*400;*000;a>d;b>d;d>c;");
        Checks.due("20: fewest ahead of least", fewer.spare(1), 4);
        Checks.due("20: fewest", fewer.spare(0), 1);
        HallOfClaims doubts = Checks.told("*400;*400;*400;*400;*400;*400;*400;*400;");
        Checks.due("20: all", doubts.spare(1), 255);
        Checks.due("20: all of them", doubts.spare(0), 8);
        Checks.due("20: none", Checks.told("*000;").spare(0), 0);
        Checks.due("20: what", x.spare(2), -2);
        Checks.due("20: what below", x.spare(-1), -2);
    }

    private static void missing(HallOfClaims x, int claim, int t, long above, long below) {
        Checks.due("21: above, " + claim + " by " + t, x.missing(claim, t, 0), above);
        Checks.due("21: below, " + claim + " by " + t, x.missing(claim, t, 1), below);
    }

    private static void promise21() {
        HallOfClaims x = Checks.told("*000;*000;*000;*000;*000;*000;*000;a>b>c;f>g;");
        missing(x, 0, 2, 1, 2);
        missing(x, 1, 2, 1, 4);
        missing(x, 2, 2, 3, 8);
        missing(x, 0, 3, 2, 3);
        missing(x, 1, 3, 2, 9);
        missing(x, 2, 3, 14, 27);
        missing(x, 0, 20, 19, 20);
        missing(x, 1, 20, 19, 400);
        missing(x, 2, 20, 7239, 8000);
        missing(x, 5, 20, 1, 1);
        missing(x, 6, 7, 0, 1);
        Checks.due("21: HEARD stay", x.count(1), 127);
        x.turns(0);
        missing(x, 0, 20, 0, 1);
        missing(x, 1, 20, 19, 20);
        HallOfClaims five = Checks.told("*000;*000;*000;*000;*000;*000;a>f;b>f;c>f;d>f;e>f;");
        missing(five, 5, 20, 1, 3200000);
        missing(five, 5, 2, 1, 32);
        HallOfClaims six = Checks.told("*000;*000;*000;*000;*000;*000;f>a;");
        missing(six, 0, 2, 0, 1);
        long far = 4000000000000000000L;
        Checks.due("21: nobody", x.missing(7, 1, 2), far + 1);
        Checks.due("21: nobody below", x.missing(-1, 2, 0), far + 1);
        Checks.due("21: t below", x.missing(0, 1, 2), far + 4);
        Checks.due("21: t far below", x.missing(0, FAR_BELOW, 0), far + 4);
        Checks.due("21: t above", x.missing(0, 21, 2), far + 6);
        Checks.due("21: part", x.missing(0, 20, 2), far + 2);
        Checks.due("21: part below", x.missing(0, 2, -1), far + 2);
        Checks.due("21: REFUSALS -1", x.count(11), 2);
        Checks.due("21: REFUSALS -2", x.count(12), 2);
        Checks.due("21: REFUSALS -4", x.count(14), 2);
        Checks.due("21: REFUSALS -6", x.count(16), 1);
    }

    private static void numbers(HallOfClaims x, int... numbers) {
        x.clear();
        for (int i = 0; i < numbers.length; i++) {
            Checks.due("23: row", x.row(numbers[i]), i + 1);
        }
    }

    private static void promise22() {
        HallOfClaims x = Checks.told("*030;*050;a>b;");
        Checks.due("22: an empty ROW, KINDS", x.whatIs(0, 0), 63);
        Checks.due("22: an empty ROW, FIGURES", x.whatIs(0, 1), 1023);
        numbers(x, 1, 0);
        // Not WEAK or DOUBT, as b has more; not ASIDE.
        Checks.due("22: KINDS of a", x.whatIs(0, 0), 1 + 4 + 8);
        Checks.due("22: KINDS of b", x.whatIs(1, 0), 1 + 2 + 16 + 32);
        Checks.due("22: FIGURES of a", x.whatIs(0, 1), 1023);
        Checks.due("22: the ROW stays", x.count(5), 2);
        x.kind(0, 1, 3);
        Checks.due("22: WEAK: at least b's", x.whatIs(0, 1), 992);
        Checks.due("22: WEAK: at most a's", x.whatIs(1, 1), 15);
        numbers(x, 1);
        Checks.due("22: they begin so", x.whatIs(0, 0), 63 - 16);
        numbers(x, 2);
        Checks.due("22: only a DOUBT", x.whatIs(0, 0), 16);
        numbers(x, 1, 0, 3);
        Checks.due("22: more numbers than CLAIMS", x.whatIs(0, 0), 0);
        x.turns(0);
        numbers(x, 3, 1);
        Checks.due("22: not HEARD", x.whatIs(0, 0), 63);
        Checks.due("22: the other a DOUBT or not", x.whatIs(1, 0), 63 - 16);
        Checks.due("22: KIND stays", x.claim(0, 0), 1);
        Checks.due("22: FIGURE stays", x.claim(0, 1), 3);
        Checks.due("22: nobody", x.whatIs(2, 2), -1);
        Checks.due("22: nobody below", x.whatIs(-1, 0), -1);
        Checks.due("22: what", x.whatIs(0, 2), -2);
        Checks.due("22: what below", x.whatIs(0, -1), -2);
    }

    private static void judged(HallOfClaims x, int due, int... numbers) {
        numbers(x, numbers);
        Checks.due("24: JUDGED of " + numbers.length, x.judge(), due);
        Checks.due("24: the ROW has none then", x.count(5), 0);
    }

    private static void promises23To25() {
        HallOfClaims x = Checks.told("*000;*000;*000;*000;a>b>c;d!;");
        Checks.due("25: none", x.clear(), 0);
        Checks.due("23: least", x.row(0), 1);
        Checks.due("23: greatest", x.row(9), 2);
        Checks.due("23: above", x.row(10), -6);
        Checks.due("23: below", x.row(-1), -4);
        for (int i = 3; i <= 12; i++) {
            Checks.due("23: more", x.row(5), i);
        }
        Checks.due("23: room", x.row(5), -6);
        Checks.due("23: below first", x.row(-5), -4);
        Checks.due("23: how many", x.count(5), 12);
        Checks.due("25: had", x.clear(), 12);
        Checks.due("25: then none", x.count(5), 0);
        judged(x, -9, 1, 0, 1, 3);
        judged(x, 0);
        judged(x, 3, 1, 0, 1);
        judged(x, 0, 0);
        judged(x, 1, 1, 1, 1, 3);
        judged(x, 1, 1, 2, 1, 3);
        judged(x, 2, 1, 0, 0, 3);
        judged(x, 3, 1, 0, 1, 2);
        judged(x, 3, 1, 0, 1, 9);
        judged(x, 4, 1, 0, 1, 3, 0);
        judged(x, 2, 1, 0);
        judged(x, 0, 7, 0, 1, 3);
        HallOfClaims ring = Checks.told("*000;*000;a>b>a;");
        judged(ring, -9, 1, 0);
        judged(ring, -9, 0, 1);
        judged(ring, -9, 2, 2);
        judged(ring, 0, 0, 0);
        judged(ring, 0, 1, 1);
        judged(ring, 0, 1, 2);
        judged(ring, 0, 2, 0);
        judged(ring, 0, 2, 1);
        judged(ring, 0, 1);
        judged(ring, 1, 2);
        judged(ring, 0, 3, 2);
        HallOfClaims two = Checks.told("*000;*000;*000;a>c;b>c;a>b>a;");
        judged(two, -9, 1, 0, 0);
        judged(two, 2, 1, 0, 1);
        judged(two, -9, 2, 2, 2);
        judged(two, 2, 2, 2, 0);
        HallOfClaims none = new HallOfClaims();
        judged(none, -9);
        judged(none, 0, 1);
        HallOfClaims doubt = Checks.told("*400;");
        judged(doubt, -9, 2);
        judged(doubt, 0, 1);
        judged(doubt, 0, 0);
    }

    private static void promise26() {
        HallOfClaims x = Checks.told("*013;*051;*023;*090;b>a;");
        int[][] due = {{0, 1, 1, 9}, {1, 1, 1, 5}, {3, 2, 1, 2}};
        for (int i = 0; i < due.length; i++) {
            for (int what = 0; what < 4; what++) {
                Checks.due("26: speakers(" + i + ", " + what + ")", x.speakers(i, what), due[i][what]);
            }
        }
        Checks.due("26: how many", x.speakers(-1, 0), 3);
        Checks.due("26: how many, whatever what is", x.speakers(-1, FAR_OUT), 3);
        Checks.due("26: nobody", x.speakers(3, 9), -1);
        Checks.due("26: nobody far", x.speakers(FAR_OUT, 0), -1);
        Checks.due("26: nobody below", x.speakers(-2, 0), -1);
        Checks.due("26: what", x.speakers(0, 4), -2);
        Checks.due("26: what below", x.speakers(0, -1), -2);
        x.turns(2);
        Checks.due("26: CLAIMS not HEARD are still CLAIMS", x.speakers(2, 1), 2);
        Checks.due("26: but not IN", x.speakers(2, 2), 0);
        Checks.due("26: greatest FIGURE still", x.speakers(2, 3), 2);
        Checks.due("26: REFUSALS", x.count(11), 3);
        HallOfClaims last = Checks.told("*009;*000;");
        Checks.due("26: greatest FIGURE of the first", Checks.told("*070;*020;*031;").speakers(0, 3), 7);
        Checks.due("26: SPEAKER 9", last.speakers(1, 0), 9);
        Checks.due("26: FIGURE 0", last.speakers(1, 3), 0);
    }

    private static void lots(HallOfClaims x, int n, int z, int in, int stable) {
        Checks.due("27: IN of " + n + " by " + z, x.lots(n, z, 0), in);
        Checks.due("27: STABLE of " + n + " by " + z, x.lots(n, z, 1), stable);
    }

    /** The due numbers were drawn and counted by a script of its own. */
    private static void promise27() {
        lots(new HallOfClaims(), 20, 1, 0, 20);
        lots(Checks.told("*000;"), 20, 3, 20, 20);
        HallOfClaims two = Checks.told("*000;*000;a>b;");
        lots(two, 1, 0, 2, 1);
        lots(two, 1, 5, 1, 1);
        Checks.due("27: ATTACKS stay", two.count(2), 1);
        Checks.due("27: which", two.claim(0, 4), 2);
        lots(Checks.told("*000;*000;*000;"), 4, -7, 10, 4);
        HallOfClaims four = Checks.told("*000;*000;*000;*000;");
        lots(four, 20, FAR_BELOW, 40, 21);
        lots(four, 6, 99, 6, 6);
        four.turns(2);
        lots(four, 6, 99, 8, 6);
        lots(Checks.told("*000;*000;*000;*000;*000;*000;*000;*000;"), 20, 12345, 34, 25);
        lots(Checks.told("*500;*500;*500;"), 1, 5, 3, 1);
        Checks.due("27: below", two.lots(0, 1, 2), -4);
        Checks.due("27: far below", two.lots(FAR_BELOW, 1, 0), -4);
        Checks.due("27: above", two.lots(21, 1, 2), -6);
        Checks.due("27: what", two.lots(20, 1, 2), -2);
        Checks.due("27: what below", two.lots(1, 1, -1), -2);
    }

    private static void promises28And29() {
        HallOfClaims x = new HallOfClaims();
        Checks.due("29: there is none", x.on(), -3);
        Checks.due("29: REFUSALS", x.count(13), 1);
        Checks.due("28: of no CLAIMS", x.image(), 0);
        Checks.tell(x, "*123;*456;*000;a>b;b+c;c!;m1;");
        Checks.due("28: how many", x.image(), 3);
        Checks.tell(x, "*000;a>b>c;c>a;a+b;c!;a!;m2;a:55;b:00;");
        x.attacks(0, 1);
        x.row(3);
        x.letter('a');
        x.letter(-1);
        Checks.due("29: how many", x.on(), 3);
        Checks.due("29: CLAIMS", x.count(0), 3);
        Checks.due("29: HEARD", x.count(1), 3);
        Checks.due("29: ATTACKS", x.claim(0, 4), 2);
        Checks.due("29: all ATTACKS", x.count(2), 1);
        Checks.due("29: SUPPORTS", x.claim(1, 5), 4);
        Checks.due("29: all SUPPORTS", x.count(3), 1);
        Checks.due("29: MODE", x.count(4), 1);
        Checks.due("29: KIND", x.claim(0, 0), 1);
        Checks.due("29: FIGURE", x.claim(1, 1), 5);
        Checks.due("29: SPEAKER", x.claim(0, 2), 3);
        Checks.due("29: but the ROW", x.count(5), 1);
        Checks.due("29: but letters", x.count(6), 1);
        Checks.due("29: but REFUSALS", x.count(14), 1);
        x.turns(2);
        Checks.due("29: it stays for another time", x.on(), 3);
        Checks.due("29: HEARD again", x.count(1), 3);
        Checks.due("29: a CLAIM more comes as new", x.claims(0, 0, 0), 3);
        Checks.due("29: without old ATTACKS", x.claim(3, 9), 0);
        Checks.due("28: anew", x.image(), 4);
        x.turns(0);
        Checks.due("29: from the new one", x.on(), 4);
        Checks.due("29: HEARD then", x.count(1), 11);
        HallOfClaims y = new HallOfClaims();
        y.image();
        y.claims(0, 0, 0);
        Checks.due("29: back to none", y.on(), 0);
        Checks.due("29: nobody is there", y.label(0), -1);
    }

    private static void promise30() {
        HallOfClaims x = Checks.told("*000;*000;*000;a>b>c;a+c;b!;m2;");
        x.row(1);
        x.row(1);
        x.letter('a');
        x.letter('a');
        x.letter('a');
        int[] due = {3, 5, 2, 1, 2, 2, 3};
        for (int what = 0; what < due.length; what++) {
            Checks.due("30: count(" + what + ")", x.count(what), due[what]);
        }
        for (int i = 0; i < 3; i++) {
            x.turns(-1);
        }
        for (int i = 0; i < 4; i++) {
            x.claim(0, 10);
        }
        for (int i = 0; i < 5; i++) {
            x.attacks(0, 0);
        }
        for (int i = 0; i < 6; i++) {
            x.row(-1);
        }
        for (int i = 0; i < 7; i++) {
            x.mode(4);
        }
        x.missing(9, 2, 0);
        int[] refusals = {4, 4, 5, 6, 0, 7};
        for (int i = 0; i < refusals.length; i++) {
            Checks.due("30: REFUSALS -" + (i + 1), x.count(11 + i), refusals[i]);
        }
        int[] others = {-1, 7, 8, 9, 10, 17, FAR_OUT, FAR_BELOW};
        for (int other : others) {
            Checks.due("30: another what", x.count(other), -9);
        }
        Checks.due("30: that is no REFUSAL", x.count(12), 4);
    }
}

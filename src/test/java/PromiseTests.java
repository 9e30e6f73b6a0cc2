/** A test a promise, by its number: ordinary inputs, the edges that the document names, wrong inputs. */
public final class PromiseTests {
    private static final int MIN = Integer.MIN_VALUE, MAX = Integer.MAX_VALUE;
    private static final int[] STREET_WRONG = {-1, 7, 8, MIN, MAX};
    private static int wrong = 0;
    private static int asked = 0;

    public static void main(String[] args) {
        p1ANewObject();
        p2Feed();
        p3Town();
        p3Faults();
        p4Day();
        p5Street();
        p6Lead();
        p7Of();
        p7Clauses();
        p7Kinds();
        p7Open();
        p8Told();
        p9Go();
        p10Tally();
        p11Cost();
        p11Flows();
        p11Kinds();
        p12Gate();
        p13Fresh();
        p14Need();
        p15Way();
        p16Errands();
        p17Stand();
        p18Ways();
        p19Stray();
        p20Tell();
        p21Wrong();
        p22Act();
        p23Trace();
        p24As();
        p25Image();
        p26Undo();
        p27Count();
        System.out.println("PromiseTests: " + asked + " asked, " + wrong + " wrong");
        if (wrong != 0) {
            System.exit(1);
        }
    }

    private static void due(String told, long got, long want) {
        asked++;
        if (got != want) {
            wrong++;
            System.out.println(told + " answered " + got + ", due is " + want);
        }
    }

    // ---- helpers

    private static void feed(EvenTally x, String text) {
        for (int i = 0; i < text.length(); i++) {
            x.feed(text.charAt(i));
        }
    }

    private static int town(EvenTally x, String text) {
        feed(x, text);
        return x.town();
    }

    /** STREETs of v 0. */
    private static EvenTally streets(int n) {
        EvenTally x = new EvenTally();
        for (int i = 0; i < n; i++) {
            x.street(0, 0);
        }
        return x;
    }

    private static EvenTally kinds(int... kinds) {
        EvenTally x = new EvenTally();
        for (int kind : kinds) {
            x.street(kind, 0);
        }
        return x;
    }

    /** Each two digits are a lead. */
    private static EvenTally leads(EvenTally x, String pairs) {
        for (String pair : pairs.split(" ")) {
            x.lead(pair.charAt(0) - '0', pair.charAt(1) - '0', true);
        }
        return x;
    }

    private static EvenTally uneven(EvenTally x, int... by) {
        for (int i = 0; i < by.length; i++) {
            x.tally(i, 0, Math.max(0, by[i]));
            x.tally(i, 1, Math.max(0, -by[i]));
        }
        return x;
    }

    // ---- the promises

    private static void p1ANewObject() {
        EvenTally x = new EvenTally();
        for (int what = 0; what <= 4; what++) {
            due("1 count " + what, x.count(what), 0);
        }
        for (int what = 0; what <= 3; what++) {
            due("1 told " + what, x.told(what), 0);
        }
        due("1 no street", x.of(0, 0), -1000001);
        due("1 the first street", x.street(0, 0), 0);
        due("1 no clauses: allowed", x.of(0, 5), 0);
        due("1 no clauses: fine", x.of(0, 6), 10);
        due("1 no clauses: step", x.of(0, 7), 1);
        due("1 the first town", town(x, "fine 1 s=0"), 0);
        due("1 no image", new EvenTally().undo(), -3);
    }

    private static void p2Feed() {
        EvenTally x = new EvenTally();
        due("2 below", x.feed(-1), -2);
        due("2 above", x.feed(128), -2);
        due("2 far below", x.feed(MIN), -2);
        due("2 far above", x.feed(MAX), -2);
        due("2 refusals add nothing", x.count(3), 0);
        due("2 the least", x.feed(0), 1);
        due("2 the most", x.feed(127), 2);
        for (int i = 3; i <= 100; i++) {
            due("2 sign " + i, x.feed('s'), i);
        }
        due("2 full", x.feed('s'), -4);
        due("2 bad ahead of full", x.feed(-1), -2);
        due("2 full adds nothing", x.count(3), 100);
        due("2 the fault of the first", x.town(), -10);
        due("2 empty again", x.feed('f'), 1);
    }

    private static void p3Town() {
        EvenTally x = streets(2);
        due("3 first", town(x, "fine 5 s=0"), 0);
        due("3 tape is empty", x.count(3), 0);
        due("3 holds", x.of(0, 6), 15);
        due("3 fault", town(x, "fine 7 s=0;"), -21);
        due("3 tape is empty by a fault", x.count(3), 0);
        due("3 a fault is no town", x.count(1), 1);
        due("3 the one that held holds", x.of(0, 6), 15);
        due("3 the newest holds", town(x, "step 4 s=1"), 1);
        due("3 the older one's gone", x.of(0, 6), 10);
        due("3 the newer one's there", x.of(1, 7), 5);
        due("3 third", town(x, "allow 99 s=1"), 2);
        due("3 fourth", town(x, "allow 0 s=0"), 3);
        due("3 fifth", town(x, "allow 3 s=0"), 4);
        due("3 feed", x.feed('x'), 1);
        due("3 full, ahead of the fault", x.town(), -4);
        due("3 the tape stays", x.count(3), 1);
        due("3 full again", x.town(), -4);
        due("3 five", x.count(1), 5);
        due("3 the fifth holds", x.of(0, 5), 3);
    }

    private static void p3Faults() {
        String[] good = {"fine 0 s=0", "fine 99 u>99", "step 10 k<0", "allow 7 d=6", "allow 7 l>1|s=1",
            "fine 1 !s=1", "fine 1 (s=1)", "fine 1 !!!!!s=1", "fine 1 (((((s=1)))))", "fine 1 !(!(!s=1))",
            "fine 1 !!!!!s=1&!!!!!s=1|!!!!!s=1", "fine 1 (((((s=1)))))&(((((s=1)))))", "fine 1 !(s=1|!(s=2&k=3))&d<9",
            "step 1 s=1;allow 2 s=2;fine 3 s=3;fine 4 s=4;step 5 s=5;fine 6 s=6;fine 7 s=7;fine 8 s=8;fine 9 s=9"};
        for (String text : good) {
            due("3 " + text, town(new EvenTally(), text), 0);
        }
        String[] early = {"", "f", "fine", "fine ", "fine 1", "fine 12", "fine 1 ", "fine 1 s", "fine 1 s<", "fine 1 !",
            "fine 1 (", "fine 1 (s=1", "fine 1 (s=1|", "fine 1 s=1;", "fine 1 s=1&", "fine 1 s=1|", "s", "st", "a", "al",
            "fine 1 (((((s=1))))", "fine 1 s=1;s"};
        for (String text : early) {
            due("3 early " + text, town(new EvenTally(), text), -10 - text.length());
        }
        // The ^ stands ahead of the fault.
        String[] bad = {"^x", "^Fine 1 s=1", "^ fine 1 s=1", "f^o", "s^x", "ste^q", "allo^x", "fine^1",
            "fine ^ 1", "fine ^s", "fine 0^0 s=1", "fine 0^5 s=1", "fine 12^3 s=1", "fine 1^s", "fine 1 ^ s=1",
            "fine 1 ^f", "fine 1 s^!", "fine 1 s^1", "fine 1 s=^x", "fine 1 s=^-1", "fine 1 s=0^0", "fine 1 s=0^1",
            "fine 1 s=12^3", "fine 1 s=1^)", "fine 1 (s=1)^)", "fine 1 s=1^ ", "fine 1 s=1^!", "fine 1 s=1^(", "fine 1 s=1^s",
            "fine 1 (s=1^;", "fine 1 (s=1)^1", "fine 1 (^)", "fine 1 !^)", "fine 1 ^&", "fine 1 ^|", "fine 1 s=1&^&",
            "fine 1 s=1|^|", "fine 1 s=1;^;", "fine 1 s=1;^ step", "fine 1 !!!!!^!s=1", "fine 1 !!!!!^(s=1)",
            "fine 1 (((((^(s=1", "fine 1 (((((^!s=1", "fine 1 !(!(!^!s=1", "fine 1 !(!(!^(s=1", "fine 1 !!!!!s=1&!!!!!^!s",
            "fine 1 (!!!!s=1&!!!!^!s=1)", "fine 1 s>^<", "fine 1 s>^=1", "fine 1 s=1^\0"};
        for (String text : bad) {
            int fault = text.indexOf('^');
            due("3 bad " + text, town(new EvenTally(), text.replace("^", "")), -10 - fault);
        }
    }

    private static void p4Day() {
        EvenTally x = new EvenTally();
        due("4 first", x.day(99), 0);
        due("4 what it was", x.day(0), 99);
        due("4 below", x.day(-1), -2);
        due("4 above", x.day(100), -2);
        due("4 far above", x.day(MAX), -2);
        due("4 stays", x.day(5), 0);
        due("4 is told", x.told(0), 5);
    }

    private static void p5Street() {
        EvenTally x = new EvenTally();
        due("5 kind below", x.street(-1, 0), -1);
        due("5 kind above", x.street(7, 0), -1);
        due("5 kind ahead of v", x.street(7, 10), -1);
        due("5 v below", x.street(0, -1), -2);
        due("5 v above", x.street(0, 10), -2);
        due("5 wild", x.street(MIN, MAX), -1);
        for (int i = 0; i < 7; i++) {
            due("5 street " + i, x.street(i, 9 - i), i);
            due("5 kind", x.of(i, 0), i);
            due("5 v", x.of(i, 1), 9 - i);
            due("5 in", x.of(i, 2), 0);
            due("5 out", x.of(i, 3), 0);
            due("5 no leads", x.of(i, 9), 0);
        }
        due("5 full", x.street(0, 0), -4);
        due("5 kind ahead of full", x.street(7, 0), -1);
        due("5 v ahead of full", x.street(0, 10), -2);
        due("5 seven", x.count(0), 7);
    }

    private static void p6Lead() {
        EvenTally x = streets(3);
        due("6 new", x.lead(0, 2, true), 0);
        due("6 was", x.lead(0, 2, true), 1);
        due("6 one way only", x.lead(2, 0, false), 0);
        due("6 bits", x.of(0, 9), 4);
        due("6 other's bits", x.of(2, 9), 0);
        due("6 away", x.lead(0, 2, false), 1);
        due("6 was away", x.lead(0, 2, false), 0);
        due("6 no bits", x.of(0, 9), 0);
        due("6 one street", x.lead(1, 1, true), -2);
        due("6 no street ahead of one", x.lead(3, 3, true), -1);
        for (int no : STREET_WRONG) {
            due("6 one " + no, x.lead(no, 0, true), -1);
            due("6 other " + no, x.lead(0, no, true), -1);
        }
        due("6 still none", x.of(0, 9) + x.of(1, 9), 0);
    }

    private static void p7Of() {
        EvenTally x = kinds(2, 0);
        x.tally(0, 0, 3);
        x.tally(0, 1, 8);
        x.tally(1, 0, 9);
        int[] want = {2, 0, 3, 8, -5, 0, 5, 1, 25, 0, 0};
        for (int what = 0; what <= 10; what++) {
            due("7 what " + what, x.of(0, what), want[what]);
        }
        due("7 pays", x.of(1, 8), 90);
        due("7 what below", x.of(0, -1), -1000001);
        due("7 what above", x.of(0, 11), -1000001);
        due("7 what far", x.of(0, MIN), -1000001);
        due("7 no street 2", x.of(2, 0), -1000001);
        for (int no : STREET_WRONG) {
            due("7 no street " + no, x.of(no, 0), -1000001);
        }
        town(x, "allow 5 s=0;allow 8 s=1");
        due("7 allowed is not beyond", x.of(0, 8), 0);
        due("7 one beyond", x.of(1, 8), 10);
        town(x, "allow 4 s=0");
        due("7 one beyond below", x.of(0, 8), 5);
    }

    private static void p7Clauses() {
        EvenTally x = streets(4);
        uneven(x, 3, -3, 0, 50);
        leads(x, "01 02 10");
        x.day(9);
        String[] tests = {"s=2", "s<2", "s>2", "k=0", "k>0", "u=3", "u<3", "u>3", "d=2", "d<2", "d=9", "l=2", "l>0", "l=1",
            "!s=2", "!!s=2", "s=0&u=3", "s=0|s=1", "s=0|s=1&s=2", "(s=0|s=1)&s=2", "s=0&s=1|s=3", "!s=0&s<2", "!(s=0&s<2)",
            "!s=0|s=0", "u>9&!l>0", "!(!(s=0|s=1)|s=1)", "s=0|s=1|s=3", "s<3&s<2&s>0", "u=50|(l=1&!(s=3))"};
        int[] hold = {4, 3, 8, 15, 0, 3, 4, 8, 15, 0, 0, 1, 3, 2, 11, 4, 1, 3, 1, 0, 8, 2, 14, 15, 8, 1, 11, 2, 10};
        for (int i = 0; i < tests.length; i++) {
            if (x.count(1) == 5) {
                x.undo();
            }
            if (x.count(1) == 0) {
                x.image();
            }
            town(x, "fine 30 " + tests[i]);
            for (int s = 0; s < 4; s++) {
                due("7 " + tests[i] + " of " + s, x.of(s, 6), (hold[i] >> s & 1) == 1 ? 40 : 10);
            }
        }
        EvenTally y = streets(1);
        town(y, "fine 1 s=0;fine 20 s=0;fine 99 s=1;step 3 s=0;step 40 s=0;allow 5 s=0;allow 60 s=0");
        due("7 fines together", y.of(0, 6), 31);
        due("7 steps together", y.of(0, 7), 44);
        due("7 alloweds together", y.of(0, 5), 65);
        EvenTally k = kinds(6, 0, 3, 5);
        town(k, "fine 1 k=6;fine 2 k=0;fine 3 k>4;fine 4 k<4");
        int[] byKind = {14, 16, 14, 6};
        for (int i = 0; i < 4; i++) {
            due("7 clauses by kind, of " + i, k.of(i, 6), byKind[i]);
        }
        EvenTally z = kinds(0, 6);
        leads(z, "01");
        town(z, "fine 1 l=1");
        due("7 a lead that is not open counts", z.of(0, 6), 11);
        due("7 it is not open", z.of(0, 10), 0);
    }

    private static void p7Kinds() {
        EvenTally x = new EvenTally();
        for (int kind = 0; kind <= 6; kind++) {
            x.street(kind, 3);
        }
        town(x, "fine 7 s<9;step 2 s<9;allow 4 s<9");
        int[] fine = {17, 17, 8, 17, 17, 8, 17};
        int[] step = {3, 3, 3, 3, 3, 2, 3};
        int[] onSunday = {4, 7, 4, 4, 9999, 4, 4};
        int[] onMonday = {4, 4, 4, 4, 9999, 4, 4};
        for (int i = 0; i < 7; i++) {
            x.day(0);
            due("7 fine of kind " + i, x.of(i, 6), fine[i]);
            due("7 step of kind " + i, x.of(i, 7), step[i]);
            due("7 allowed of kind " + i + ", day 0", x.of(i, 5), onSunday[i]);
            x.day(98);
            due("7 allowed of kind " + i + ", day 98", x.of(i, 5), onSunday[i]);
            x.day(8);
            due("7 allowed of kind " + i + ", day 8", x.of(i, 5), onMonday[i]);
        }
        due("7 a wide one alone steps for nothing", kinds(5).of(0, 7), 0);
    }

    private static void p7Open() {
        EvenTally x = new EvenTally();
        int[] kinds = {0, 6, 3, 5, 6, 0};
        int[] v = {9, 1, 0, 0, 0, 0};
        for (int i = 0; i < 6; i++) {
            x.street(kinds[i], v[i]);
        }
        for (int i = 0; i < 6; i++) {
            for (int j = 0; j < 6; j++) {
                x.lead(i, j, true);
            }
        }
        // 1 is shut on multiples of 3, 4 on those of 2.
        int[] days = {0, 1, 2, 3, 4, 6, 99};
        int[] shut = {18, 0, 16, 2, 16, 18, 2};
        for (int d = 0; d < days.length; d++) {
            x.day(days[d]);
            int[] all = {62, 61 - 1, 56, 55, 32, 31};
            for (int i = 0; i < 6; i++) {
                due("7 open of " + i + " on day " + days[d], x.of(i, 10), all[i] & ~shut[d]);
            }
        }
        due("7 leads stay", x.of(4, 9), 47);
    }

    private static void p8Told() {
        EvenTally x = kinds(0, 2, 4, 0);
        uneven(x, 3, -5, 70, -1);
        x.day(40);
        town(x, "allow 1 s=3");
        due("8 day", x.told(0), 40);
        due("8 pays of all", x.told(1), 55);
        due("8 uneven of all", x.told(2), 67);
        due("8 that pay", x.told(3), 3);
        due("8 below", x.told(-1), -1000001);
        due("8 above", x.told(4), -1000001);
        uneven(x, -9, 0, 0, -1);
        due("8 uneven below 0", x.told(2), -10);
    }

    private static void p9Go() {
        EvenTally x = streets(3);
        leads(x, "01 12");
        due("9 a going", x.go(0, 1, 9), 9);
        due("9 out of the one", x.of(0, 3), 9);
        due("9 in of the one", x.of(0, 2), 0);
        due("9 in of the other", x.of(1, 2), 9);
        due("9 out of the other", x.of(1, 3), 0);
        due("9 on", x.go(1, 2, 1), 1);
        due("9 uneven of the other, not of the one", x.go(0, 1, 2), 10);
        due("9 n below", x.go(0, 1, 0), -1000002);
        due("9 n above", x.go(0, 1, 10), -1000002);
        due("9 n far below", x.go(0, 1, MIN), -1000002);
        due("9 no lead", x.go(0, 2, 1), -1000003);
        due("9 not back", x.go(1, 0, 1), -1000003);
        due("9 one street", x.go(1, 1, 1), -1000003);
        due("9 bad ahead of state", x.go(1, 1, 10), -1000002);
        for (int no : STREET_WRONG) {
            due("9 one " + no, x.go(no, 1, 10), -1000001);
            due("9 other " + no, x.go(0, no, 10), -1000001);
        }
        due("9 nothing has changed", x.of(0, 3) * 100 + x.of(1, 2), 1111);
        x.tally(0, 1, 9990);
        due("9 out would be above", x.go(0, 1, 9), 19);
        due("9 out is 9999, no more", x.go(0, 1, 1), -1000003);
        x.tally(0, 1, 5);
        x.tally(1, 0, 9998);
        due("9 in would be above", x.go(0, 1, 2), -1000003);
        due("9 in not changed", x.of(1, 2), 9998);
        due("9 out not changed", x.of(0, 3), 5);
        due("9 in is 9999", x.go(0, 1, 1), 9998);
        x.tally(1, 1, 9999);
        x.tally(1, 0, 1);
        x.tally(2, 0, 0);
        due("9 the one's in, the other's out have no part", x.go(0, 1, 1), -9997);
        EvenTally y = kinds(0, 3, 6);
        leads(y, "10 02 12");
        due("9 one way", y.go(1, 0, 1), -1000003);
        due("9 shut", y.go(0, 2, 1), -1000003);
        y.day(1);
        due("9 not shut", y.go(0, 2, 3), 3);
        due("9 one way up", y.go(1, 2, 1), 4);
    }

    private static void p10Tally() {
        EvenTally x = streets(2);
        due("10 in", x.tally(1, 0, 9999), 0);
        due("10 in was", x.tally(1, 0, 7), 9999);
        due("10 out", x.tally(1, 1, 5), 0);
        due("10 out was", x.tally(1, 1, 0), 5);
        due("10 in stays", x.of(1, 2), 7);
        due("10 the other's", x.of(0, 2) + x.of(0, 3), 0);
        due("10 n below", x.tally(1, 0, -1), -2);
        due("10 n above", x.tally(1, 0, 10000), -2);
        due("10 what below", x.tally(1, -1, 0), -1);
        due("10 what above", x.tally(1, 2, 0), -1);
        due("10 what ahead of n", x.tally(1, 2, -1), -1);
        due("10 no street 2", x.tally(2, 0, 0), -1);
        for (int no : STREET_WRONG) {
            due("10 street " + no, x.tally(no, 0, 10000), -1);
        }
        due("10 nothing has changed", x.of(1, 2), 7);
    }

    private static void p11Cost() {
        EvenTally x = streets(3);
        due("11 even", x.cost(0) + x.cost(1), 0);
        uneven(x, 2, -2, 0);
        due("11 by none", x.cost(0), -5);
        due("11 all is paid", x.cost(1), 40);
        leads(x, "02 21");
        due("11 least", x.cost(0), 4);
        due("11 cheapest", x.cost(1), 4);
        due("11 what below", x.cost(-1), -1);
        due("11 what above", x.cost(2), -1);
        town(x, "step 30 s=2");
        due("11 least is dearer", x.cost(0), 64);
        due("11 cheapest is fines", x.cost(1), 40);
        town(x, "step 15 s=2");
        due("11 from the one on, the other's fines stay", x.cost(1), 34);
        town(x, "step 15 s=2;allow 1 s<9");
        due("11 allowed, least", x.cost(0), 17);
        due("11 allowed: one stays with 2, at 1", x.cost(1), 11);
        uneven(x, 5, 0, 0);
        due("11 too many in all, least", x.cost(0), -5);
        due("11 too many in all, cheapest", x.cost(1), 31);
        due("11 nothing is changed", x.of(0, 2) + x.of(2, 2), 5);
        uneven(x, 0, 3, 0);
        due("11 no way from there", x.cost(0), -5);
        due("11 no way from there: paid", x.cost(1), 20);
        uneven(x, 3, 0, 0);
        due("11 each keeps one", x.cost(0), 2 * 1 + 16);
        EvenTally y = leads(streets(7), "01 12 23 34 45 56");
        uneven(y, 9999, 0, 0, 0, 0, 0, -9999);
        due("11 far and many, least", y.cost(0), 59994);
        due("11 far and many, cheapest", y.cost(1), 59994);
        town(y, "step 99 s<9;step 99 k<9;step 99 d<9;step 99 l<9;step 99 s<8;step 99 s<8;step 99 s<8;step 99 s<8");
        due("11 dearest, least", y.cost(0), 9999 * 6 * 793);
        due("11 dearest, cheapest", y.cost(1), 9999 * 20);
    }

    private static void p11Flows() {
        EvenTally x = leads(streets(4), "01 02 12 13");
        uneven(x, 2, 1, -1, -2);
        due("11 all the same way", x.cost(0), 4);
        x = leads(streets(4), "02 03 12");
        town(x, "step 3 s=1;step 5 s=0&l<2");
        uneven(x, 1, 1, -1, -1);
        due("11 the nearest is another one's only one", x.cost(0), 5);
        due("11 paid or not", x.cost(1), 5);
        x = leads(streets(3), "02 12");
        uneven(x, 1, 1, -2);
        due("11 two to one", x.cost(0), 2);
        x = leads(streets(3), "01 02");
        uneven(x, 2, -1, -1);
        due("11 one to two", x.cost(0), 2);
        due("11 one to two, paid or not", x.cost(1), 2);
        uneven(x, 0, 0, -5);
        due("11 too few in all", x.cost(0), -5);
        due("11 too few in all, after that", x.cost(1), 50);
        uneven(x, 5, -1, -2);
        due("11 left over", x.cost(0), -5);
        due("11 left over, paid", x.cost(1), 23);
        town(x, "allow 1 s<9");
        due("11 left over, each keeps one or less", x.cost(0), 4);
        EvenTally all = streets(7);
        for (int i = 0; i < 7; i++) {
            for (int j = 0; j < 7; j++) {
                all.lead(i, j, true);
            }
        }
        uneven(all, -9, 4, -1, 3, -3, 1, 5);
        due("11 all leads, least", all.cost(0), 13);
        due("11 all leads, cheapest", all.cost(1), 13);
        due("11 all leads, the last needed", all.need(6, 4), 0);
        uneven(all, 0, 0, 0, 0, 0, -3, 3);
        due("11 all leads, the last of all", all.cost(0), 3);
        due("11 all leads, the last of all needed", all.need(6, 5), 3);
    }

    private static void p11Kinds() {
        EvenTally x = leads(kinds(0, 6, 0), "01 12");
        uneven(x, 2, 0, -2);
        due("11 shut today", x.cost(0), -5);
        x.day(1);
        due("11 not shut today", x.cost(0), 4);
        due("11 allowed 1 by town", town(x, "allow 1 s=0"), 0);
        uneven(x, 3, 0, -2);
        due("11 one may stay", x.cost(0), 4);
        uneven(x, 4, 0, -2);
        due("11 two may not", x.cost(0), -5);
        due("11 the second pays", x.cost(1), 14);
        EvenTally free = leads(kinds(0, 4), "01");
        uneven(free, 9999, 9999);
        due("11 the free one holds no more without fines", free.cost(0), -5);
        due("11 but in thought it holds more than 9999", free.cost(1), 9999 * 10);
        uneven(free, 9999, -1);
        due("11 it takes all", free.cost(0), 9999);
        EvenTally wide = leads(kinds(5, 5, 5), "01 12 20");
        uneven(wide, 7, -7, 0);
        due("11 wide ones cost nothing", wide.cost(0), 0);
        EvenTally helped = leads(kinds(0, 2), "01");
        town(helped, "step 5 s=0");
        uneven(helped, 4, 0);
        due("11 the helped one's fine is less, but the step adds", helped.cost(1), 40);
        town(helped, "step 3 s=0");
        due("11 the helped one's fine and step", helped.cost(1), 36);
        EvenTally sunday = new EvenTally();
        sunday.street(1, 4);
        uneven(sunday, 5);
        due("11 sunday", sunday.cost(1), 10);
        sunday.day(1);
        due("11 monday", sunday.cost(1), 50);
    }

    private static void p12Gate() {
        EvenTally x = leads(streets(3), "01 12");
        uneven(x, 4, 0, -1);
        due("12 cheapest", x.cost(1), 32);
        due("12 gate of 0", x.gate(0), 30);
        due("12 gate of 1", x.gate(1), 32 - 5);
        due("12 gate of 2", x.gate(2), 32 - 8);
        due("12 no street", x.gate(3), -1);
        for (int no : STREET_WRONG) {
            due("12 street " + no, x.gate(no), -1);
        }
        due("12 nothing is changed", x.cost(1), 32);
        EvenTally free = leads(kinds(4, 0), "10");
        uneven(free, 9999, 9999);
        due("12 gate of a free one", free.gate(0), 0);
        due("12 9999, not without bound", free.gate(1), 99990);
        uneven(free, 9999, 0);
        EvenTally two = leads(streets(2), "10");
        uneven(two, 9999, 9999);
        due("12 two", two.cost(1), 199980);
        due("12 one's 9999 are full", two.gate(0), 99990);
    }

    private static void p13Fresh() {
        EvenTally x = leads(streets(3), "01");
        uneven(x, 3, 0, -3);
        due("13 cheapest", x.cost(1), 60);
        due("13 from 0 to 2", x.fresh(0, 2), 57);
        due("13 from 1 to 2", x.fresh(1, 2), 54);
        due("13 from 2 to 0", x.fresh(2, 0), 0);
        due("13 what is there", x.fresh(0, 1), 0);
        due("13 one street", x.fresh(1, 1), -2);
        due("13 no street ahead of one", x.fresh(3, 3), -1);
        for (int no : STREET_WRONG) {
            due("13 one " + no, x.fresh(no, 1), -1);
            due("13 other " + no, x.fresh(1, no), -1);
        }
        due("13 no lead has come", x.of(0, 9), 2);
        EvenTally y = kinds(0, 3, 6);
        uneven(y, -2, 2, 0);
        due("13 an open one, from a one way street too", y.fresh(1, 0), 38);
        uneven(y, 2, 0, -2);
        due("13 an open one, to a shut one too", y.fresh(0, 2), 38);
        leads(y, "02");
        due("13 one that is there, but not open", y.fresh(0, 2), 38);
        town(y, "step 5 s=0&l=1;fine 9 s=2&l=1");
        due("13 step as it is now", y.fresh(0, 1), 0);
        due("13 step as it is now, used", y.fresh(0, 2), 40 - 12);
        EvenTally z = streets(2);
        town(z, "step 5 l=1");
        uneven(z, 1, -1);
        due("13 leads are counted as they are now", z.fresh(0, 1), 19);
    }

    private static void p14Need() {
        EvenTally x = leads(streets(4), "01 12 02 30");
        uneven(x, 3, 0, -3, 0);
        due("14 cheapest", x.cost(1), 3);
        due("14 there is another way", x.need(0, 2), 3);
        due("14 not used", x.need(0, 1), 0);
        due("14 not there", x.need(2, 0), 0);
        due("14 one street", x.need(1, 1), -2);
        due("14 no street ahead of one", x.need(4, 4), -1);
        for (int no : STREET_WRONG) {
            due("14 one " + no, x.need(no, 1), -1);
            due("14 other " + no, x.need(1, no), -1);
        }
        x.lead(0, 1, false);
        due("14 needed", x.need(0, 2), 57);
        due("14 the lead is there still", x.of(0, 9), 4);
        town(x, "fine 9 l=0&s=0;step 2 s=0&l=1");
        due("14 fine as it is now", x.need(0, 2), 60 - 9);
        EvenTally y = leads(kinds(0, 3), "10");
        uneven(y, -2, 2);
        due("14 not open", y.need(1, 0), 0);
    }

    private static void p15Way() {
        EvenTally x = leads(kinds(0, 5, 0, 3, 0), "01 12 02 23 30 34");
        town(x, "step 4 s=0;step 2 s=1");
        due("15 one street", x.way(0, 0), 0);
        due("15 a step", x.way(0, 1), 5);
        due("15 the direct one", x.way(0, 2), 5);
        due("15 two steps", x.way(1, 3), 3);
        due("15 one way", x.way(3, 0), -5);
        due("15 one way up", x.way(0, 4), 7);
        due("15 none", x.way(4, 0), -5);
        due("15 one street without leads", x.way(4, 4), 0);
        for (int no : STREET_WRONG) {
            due("15 one " + no, x.way(no, 1), -1);
            due("15 other " + no, x.way(1, no), -1);
        }
        due("15 no street at all", x.way(5, 5), -1);
        due("15 by the first street", leads(streets(3), "10 02").way(1, 2), 2);
        town(x, "step 9 l=2");
        due("15 round is cheaper", leads(x, "14").way(1, 4), 9);
        due("15 wide for nothing", leads(kinds(5, 5, 5), "01 12").way(0, 2), 0);
        EvenTally y = leads(streets(3), "02 01 12");
        town(y, "step 9 s=0&l<2;step 5 u>0");
        due("15 direct", y.way(0, 2), 1);
        uneven(y, 1, 0, 0);
        due("15 steps by uneven", y.way(0, 2), 6);
    }

    private static void p16Errands() {
        EvenTally x = leads(streets(5), "01 10 12 21 23 32 34 43");
        due("16 none", x.errands(2, 0, -1), 0);
        due("16 none: no order", x.errands(2, 0, 0), -5);
        due("16 itself", x.errands(2, 4, -1), 0);
        due("16 itself in the order", x.errands(2, 4, 0), 2);
        due("16 all", x.errands(2, 31, -1), 8);
        int[] order = {0, 1, 2, 3, 4};
        for (int k = 0; k < 5; k++) {
            due("16 all, first order, " + k, x.errands(2, 31, k), order[k]);
        }
        due("16 no fifth", x.errands(2, 31, 5), -5);
        due("16 no sixth", x.errands(2, 31, 6), -5);
        due("16 two", x.errands(2, 17, -1), 8);
        due("16 two, first", x.errands(2, 17, 0), 0);
        due("16 two, second", x.errands(2, 17, 1), 4);
        due("16 k below", x.errands(2, 0, -2), -1);
        due("16 k above", x.errands(2, 0, 7), -1);
        due("16 set above", x.errands(2, 32, -1), -2);
        due("16 set below", x.errands(2, -1, -1), -2);
        due("16 set far below", x.errands(2, MIN, -1), -2);
        due("16 set far above", x.errands(2, MAX, -1), -2);
        due("16 k ahead of set", x.errands(2, 32, 7), -1);
        for (int no : STREET_WRONG) {
            due("16 street " + no, x.errands(no, 32, 0), -1);
        }
        EvenTally y = leads(streets(4), "02 21 10 12 03");
        due("16 ring", y.errands(0, 6, -1), 3);
        due("16 ring, first", y.errands(0, 6, 0), 2);
        due("16 ring, second", y.errands(0, 6, 1), 1);
        due("16 no way home", y.errands(0, 8, -1), -5);
        due("16 no way home: no order", y.errands(0, 8, 0), -5);
        due("16 no way there", y.errands(3, 1, -1), -5);
        due("16 itself without leads", y.errands(3, 8, -1), 0);
        due("16 none without leads", y.errands(3, 0, -1), 0);
        due("16 with itself: the lesser first", y.errands(2, 6, 0), 1);
        due("16 with itself: itself then", y.errands(2, 6, 1), 2);
        due("16 with itself: cost", y.errands(2, 6, -1), 2);
        due("16 ring with itself", y.errands(0, 7, 0), 0);
    }

    private static void p17Stand() {
        due("17 no streets", new EvenTally().stand(), -5);
        EvenTally x = leads(streets(4), "01 12 23 31");
        due("17 none pays", x.stand(), 0);
        uneven(x, 0, 0, 5, 0);
        due("17 the one that pays", x.stand(), 2);
        uneven(x, 0, 5, 5, 0);
        due("17 of two", x.stand(), 1);
        uneven(x, 0, 5, 5, 5);
        due("17 of several the least", x.stand(), 1);
        uneven(x, 1, 0, 0, 1);
        due("17 only from there", x.stand(), 0);
        x.lead(0, 1, false);
        due("17 from none", x.stand(), -5);
        town(x, "allow 1 s=0");
        due("17 it doesn't pay now", x.stand(), 3);
        EvenTally y = leads(streets(3), "20 21");
        uneven(y, 1, 1, 0);
        due("17 where nobody pays", y.stand(), 2);
    }

    private static void p18Ways() {
        EvenTally x = streets(7);
        for (int i = 0; i < 7; i++) {
            for (int j = 0; j < 7; j++) {
                x.lead(i, j, true);
            }
        }
        due("18 of none", x.ways(3, 3, 0), 1);
        due("18 of none, to another", x.ways(3, 4, 0), 0);
        due("18 of one", x.ways(3, 4, 1), 1);
        due("18 of one, back", x.ways(3, 3, 1), 0);
        due("18 of two", x.ways(3, 4, 2), 5);
        due("18 of two, back", x.ways(3, 3, 2), 6);
        due("18 of twenty", x.ways(3, 4, 20), 522308348580425L);
        due("18 of twenty, back", x.ways(3, 3, 20), 522308348580426L);
        due("18 n below", x.ways(0, 0, -1), Long.MIN_VALUE);
        due("18 n above", x.ways(0, 0, 21), Long.MIN_VALUE);
        for (int no : STREET_WRONG) {
            due("18 one " + no, x.ways(no, 1, 1), Long.MIN_VALUE);
            due("18 other " + no, x.ways(1, no, 1), Long.MIN_VALUE);
        }
        EvenTally y = leads(kinds(0, 3, 0), "01 10 12");
        due("18 not back by a one way street", y.ways(0, 0, 2), 0);
        due("18 on by it", y.ways(0, 2, 2), 1);
        due("18 no more", y.ways(0, 2, 3), 0);
    }

    private static void stray(EvenTally x, int one, int other, int n, long above, long below) {
        due("19 stray " + one + other + n + " above", x.stray(one, other, n, 0), above);
        due("19 stray " + one + other + n + " below", x.stray(one, other, n, 1), below);
    }

    private static void p19Stray() {
        EvenTally x = leads(kinds(0, 0, 0, 3), "01 02 12 30");
        stray(x, 0, 0, 0, 1, 1);
        stray(x, 0, 1, 0, 0, 1);
        stray(x, 0, 1, 1, 1, 2);
        stray(x, 0, 2, 1, 1, 2);
        stray(x, 0, 2, 2, 1, 1);
        stray(x, 0, 1, 2, 0, 1);
        stray(x, 2, 2, 6, 1, 1);
        stray(x, 3, 3, 3, 1, 1);
        stray(x, 3, 0, 3, 0, 1);
        EvenTally y = leads(streets(4), "01 02 03 10 12 20 21 30");
        stray(y, 0, 0, 2, 2, 3);
        stray(y, 0, 0, 6, 197, 432);
        EvenTally z = streets(7);
        for (int i = 0; i < 7; i++) {
            for (int j = 0; j < 7; j++) {
                z.lead(i, j, true);
            }
        }
        stray(z, 0, 0, 6, 1111, 7776);
        stray(z, 0, 1, 5, 1111, 7776);
        due("19 n below", x.stray(0, 0, -1, 0), Long.MIN_VALUE);
        due("19 n above", x.stray(0, 0, 7, 0), Long.MIN_VALUE);
        due("19 part below", x.stray(0, 0, 1, -1), Long.MIN_VALUE);
        due("19 part above", x.stray(0, 0, 1, 2), Long.MIN_VALUE);
        for (int no : STREET_WRONG) {
            due("19 one " + no, x.stray(no, 1, 1, 0), Long.MIN_VALUE);
            due("19 other " + no, x.stray(1, no, 1, 0), Long.MIN_VALUE);
        }
    }

    private static void p20Tell() {
        EvenTally x = new EvenTally();
        due("20 below", x.tell(-2, 0), -2);
        due("20 above", x.tell(1000, 0), -2);
        due("20 out below", x.tell(0, -1), -2);
        due("20 out above", x.tell(0, 1000), -2);
        due("20 none yet", x.count(2), 0);
        for (int i = 1; i <= 7; i++) {
            due("20 tally " + i, x.tell(999, 0), i);
        }
        due("20 full", x.tell(0, 0), -4);
        due("20 bad ahead of full", x.tell(0, 1000), -2);
        due("20 seven", x.count(2), 7);
        due("20 none then, whatever the other is", x.tell(-1, MIN), 0);
        due("20 none", x.count(2), 0);
        due("20 none twice", x.tell(-1, 5), 0);
        due("20 off of none", x.wrong(0), 0);
        due("20 anew", x.tell(0, 999), 1);
        due("20 anew: off", x.wrong(0), -999);
    }

    private static void p21Wrong() {
        EvenTally x = new EvenTally();
        due("21 none", x.wrong(0) + x.wrong(1) + x.wrong(2), 0);
        x.tell(5, 3);
        x.tell(0, 995);
        x.tell(1, 0);
        due("21 off", x.wrong(0), -992);
        due("21 in", x.wrong(1), 7);
        due("21 out", x.wrong(2), 2);
        x.tell(7, 7);
        x.tell(8, 991);
        x.tell(983, 0);
        due("21 off again", x.wrong(0), -992);
        due("21 in less off above 999", x.wrong(1), 15);
        due("21 out and off below 0", x.wrong(2), 2);
        x.tell(992, 0);
        due("21 off 0", x.wrong(0), 0);
        due("21 off 0: none in", x.wrong(1), 0);
        due("21 off 0: none out", x.wrong(2), 0);
        x.tell(-1, 0);
        x.tell(7, 0);
        x.tell(8, 991);
        x.tell(990, 7);
        x.tell(0, 0);
        due("21 off above", x.wrong(0), 7);
        due("21 in: 0 can be told", x.wrong(1), 7);
        due("21 out: 998 can be told", x.wrong(2), 15);
        x.tell(1, 0);
        x.tell(1, 0);
        due("21 off 9", x.wrong(0), 9);
        due("21 in less off below 0", x.wrong(1), 4);
        due("21 out and off above 999", x.wrong(2), 61);
        due("21 what below", x.wrong(-1), -1000001);
        due("21 what above", x.wrong(3), -1000001);
    }

    private static void acts(EvenTally x, int street, int act, int to, int want, int... bodies) {
        due("22 act " + street + " " + act, x.act(street, act, to), want);
        due("22 bodies of " + street + " " + act, x.count(4), bodies.length);
        for (int i = 0; i < bodies.length; i++) {
            due("22 body " + i + " of " + street + " " + act, x.trace(i), bodies[i]);
        }
        due("22 no more bodies", x.trace(bodies.length), -1);
    }

    private static void p22Act() {
        EvenTally x = new EvenTally();
        int[] v = {4, 9, 2, 8, 3, 5, 6};
        for (int kind = 0; kind < 7; kind++) {
            x.street(kind, v[kind]);
        }
        acts(x, 0, 0, 10, 10, 1);
        acts(x, 0, 1, 10, 6, 2, 1);
        acts(x, 0, 2, 10, 12, 3, 2, 1);
        acts(x, 1, 0, 10, 31, 11, 1);
        acts(x, 1, 1, 10, 22, 2, 11, 1);
        acts(x, 1, 2, 10, 44, 3, 2, 11, 1);
        acts(x, 2, 0, 10, 12, 1);
        acts(x, 2, 1, 10, -10, 21, 2, 1);
        acts(x, 2, 2, 10, -20, 3, 21, 2, 1);
        acts(x, 3, 0, 10, 13, 1);
        acts(x, 3, 1, 10, 5, 2, 1);
        acts(x, 3, 2, 10, 10 ^ 7, 31, 3, 2, 1);
        acts(x, 4, 0, 10, 34, 11, 1);
        acts(x, 4, 1, 10, 31, 2, 11, 1);
        acts(x, 4, 2, 10, 56 + 10, 41, 3, 2, 11, 1, 11, 1);
        acts(x, 5, 0, 10, 15 ^ 5, 51, 1);
        acts(x, 5, 1, 10, -5, 21, 2, 51, 1);
        acts(x, 5, 2, 10, -10, 3, 21, 2, 51, 1);
        acts(x, 6, 0, 10, 16, 1);
        acts(x, 6, 1, 10, 16, 61, 2, 1);
        acts(x, 6, 2, 10, 32 ^ 7, 31, 3, 61, 2, 1);
        acts(x, 1, 0, MAX, MAX * 3 + 1, 11, 1);
        acts(x, 0, 1, MIN, MIN - 4, 2, 1);
        acts(x, 2, 1, MIN, -(MIN + 2 - 2), 21, 2, 1);
        acts(x, 0, 3, 1, 0);
        acts(x, 0, 0, 1, 1, 1);
        acts(x, 0, -1, 1, 0);
        acts(x, 0, 0, 1, 1, 1);
        acts(x, 7, 0, 1, 0);
        acts(x, 0, 0, 1, 1, 1);
        acts(x, -1, 0, 1, 0);
    }

    private static void p23Trace() {
        EvenTally x = kinds(4);
        due("23 none yet", x.trace(0), -1);
        x.act(0, 2, 1);
        due("23 first", x.trace(0), 41);
        due("23 last", x.trace(6), 1);
        due("23 behind the last", x.trace(7), -1);
        due("23 below", x.trace(-1), -1);
        due("23 far below", x.trace(MIN), -1);
        due("23 far above", x.trace(MAX), -1);
        due("23 of twenty", x.trace(19), -1);
        x.act(0, 0, 1);
        due("23 the latest", x.trace(0), 11);
        due("23 the latest alone", x.trace(2), -1);
        x.act(1, 0, 1);
        due("23 none of a wrong one", x.trace(0), -1);
    }

    private static void p24As() {
        EvenTally x = new EvenTally();
        for (int kind = 0; kind < 7; kind++) {
            x.street(kind, 9 - kind);
        }
        int[] above = {1, 3, 5, 9, 19, 37, 73};
        for (int s = 0; s < 7; s++) {
            for (int k = 0; k < 7; k++) {
                due("24 " + s + " as " + k, x.as(s, k), (above[s] >> k & 1) == 1 ? 9 - s : -6);
            }
        }
        due("24 k below", x.as(0, -1), -1);
        due("24 k above", x.as(0, 7), -1);
        for (int no : STREET_WRONG) {
            due("24 street " + no, x.as(no, 0), -1);
        }
    }

    private static void p25Image() {
        EvenTally x = new EvenTally();
        due("25 none", x.image(), 0);
        x.street(0, 0);
        x.street(0, 0);
        due("25 two", x.image(), 2);
        x.street(0, 0);
        due("25 nothing is changed", x.count(0), 3);
        due("25 the newest holds", x.undo(), 2);
    }

    private static void p26Undo() {
        EvenTally x = kinds(0, 2);
        due("26 none", x.undo(), -3);
        leads(x, "01");
        uneven(x, 3, -2);
        town(x, "fine 5 s=0");
        feed(x, "step 7 s=1");
        x.day(12);
        x.tell(5, 3);
        x.act(0, 1, 1);
        due("26 image", x.image(), 2);
        x.act(0, 0, 1);
        x.street(3, 3);
        leads(x, "10 12 20");
        x.lead(0, 1, false);
        uneven(x, 9, 9, 9);
        due("26 another town", x.town(), 1);
        feed(x, "xyz");
        x.day(50);
        x.tell(1, 1);
        for (int twice = 0; twice < 2; twice++) {
            due("26 undone", x.undo(), 2);
            due("26 streets", x.count(0), 2);
            due("26 leads", x.of(0, 9) * 10 + x.of(1, 9), 20);
            due("26 in", x.of(0, 2) * 10 + x.of(1, 2), 30);
            due("26 out", x.of(0, 3) * 10 + x.of(1, 3), 2);
            due("26 towns", x.count(1), 1);
            due("26 the town that held holds", x.of(0, 6) * 100 + x.of(1, 7), 1501);
            due("26 day", x.told(0), 12);
            due("26 tallies", x.count(2), 1);
            due("26 off", x.wrong(0), 2);
            due("26 the tape", x.count(3), 10);
            due("26 the trace stays", x.trace(0), twice == 0 ? 1 : 2);
            due("26 its size stays", x.count(4), twice == 0 ? 1 : 2);
            due("26 the tape's signs", x.town(), 1);
            due("26 it holds", x.of(1, 7), 8);
            due("26 a new street has the number again", x.street(5, 7), 2);
            due("26 and has no tallies", x.of(2, 2) + x.of(2, 3) + x.of(2, 9), 0);
            due("26 and its own kind", x.of(2, 0) * 10 + x.of(2, 1), 57);
            uneven(x, 1, 1, 1);
            leads(x, "21 12");
            x.tell(-1, 0);
            x.tell(8, 8);
            x.tell(8, 8);
            x.act(0, 1, 1);
        }
        EvenTally y = new EvenTally();
        y.image();
        y.street(4, 4);
        y.undo();
        y.street(0, 1);
        y.street(1, 2);
        y.image();
        y.undo();
        due("26 kinds and numbers are kept", y.of(0, 0) * 1000 + y.of(0, 1) * 100 + y.of(1, 0) * 10 + y.of(1, 1), 112);
    }

    private static void p27Count() {
        EvenTally x = streets(3);
        town(x, "fine 1 s=1");
        town(x, "fine 1 s=1");
        feed(x, "abcde");
        x.tell(1, 1);
        x.act(0, 2, 1);
        int[] want = {3, 2, 1, 5, 3};
        for (int what = 0; what < 5; what++) {
            due("27 count " + what, x.count(what), want[what]);
        }
        due("27 below", x.count(-1), -1);
        due("27 above", x.count(5), -1);
        due("27 far", x.count(MIN), -1);
        due("27 the constants", EvenTally.NONE * 1000 + EvenTally.BAD * 100 + EvenTally.STATE * 10 + EvenTally.FULL, -1234);
        due("27 no such number", EvenTally.NO, Long.MIN_VALUE);
    }
}

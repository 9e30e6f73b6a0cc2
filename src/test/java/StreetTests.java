/** The boundaries of chapter 1 of the Terms but for the tape, a test a sentence. */
public final class StreetTests {
    private static final int MAX = Bench.MAX, MIN = Bench.MIN;

    public static void main(String[] args) {
        anEmptyObject();
        streetsFrom0To6();
        kinds();
        numbers();
        inAndOut();
        uneven();
        leads();
        days();
        testsOfTheNumber();
        testsOfTheKind();
        testsOfUneven();
        testsOfTheDay();
        testsOfLeads();
        conditions();
        allowed();
        sundays();
        free();
        fines();
        halves();
        steps();
        wideSteps();
        oneWay();
        shut();
        shutByDays();
        pays();
        goings();
        goingsTo9999();
        goingsByOpenLeads();
        Bench.end("StreetTests");
    }

    // ---- streets

    private static void anEmptyObject() {
        Bench.sentence("No STREETS, no TOWN.");
        EvenTally x = new EvenTally();
        for (int what = 0; what <= 4; what++) {
            Bench.due("count " + what, x.count(what), 0);
        }
        for (int what = 0; what <= 3; what++) {
            Bench.due("told " + what, x.told(what), 0);
        }
        Bench.due("no street 0", x.of(0, 0), Bench.FAR_NONE);
        Bench.due("no way", x.way(0, 0), -1);
        Bench.due("no errands", x.errands(0, 0, -1), -1);
        Bench.due("no stand", x.stand(), -5);
        Bench.due("least of none", x.cost(0), 0);
        Bench.due("cheapest of none", x.cost(1), 0);
        Bench.due("no gate", x.gate(0), -1);
        Bench.due("off of none", x.wrong(0), 0);
        Bench.due("no trace", x.trace(0), -1);
        Bench.due("no image", x.undo(), -3);
    }

    private static void streetsFrom0To6() {
        Bench.sentence("STREETS are numbered from 0 on, 7 at most");
        EvenTally x = new EvenTally();
        for (int i = 0; i < 7; i++) {
            Bench.due("no street " + i + " yet", x.of(i, 0), Bench.FAR_NONE);
            Bench.due("street " + i, x.street(0, 0), i);
            Bench.due("street " + i + " is there", x.of(i, 0), 0);
            Bench.due("streets", x.count(0), i + 1);
        }
        Bench.due("an eighth", x.street(0, 0), -4);
        Bench.due("an eighth, once more", x.street(6, 9), -4);
        Bench.due("seven", x.count(0), 7);
        Bench.due("no street 7", x.of(7, 0), Bench.FAR_NONE);
        Bench.due("the seventh is as it was", x.of(6, 0) + x.of(6, 1), 0);
        // The seventh takes part in everything.
        Bench.due("a lead from it", x.lead(6, 0, true), 0);
        Bench.due("a lead to it", x.lead(0, 6, true), 0);
        Bench.due("a lead to it, bits", x.of(0, 10), 64);
        Bench.due("a going to it", x.go(0, 6, 9), 9);
        Bench.due("it pays", x.told(3), 65);
        Bench.due("it goes back", x.cost(0), 9);
        Bench.due("a way to it", x.way(0, 6), 1);
        Bench.due("errands by it", x.errands(0, 64, 0), 6);
        Bench.due("acts of it", x.act(6, 0, 1), 7);
    }

    private static void kinds() {
        Bench.sentence("each of a KIND: 0 STREET; 1 SUNDAY, 2 HELPED, 3 ONEWAY under STREET; 4 FREE under SUNDAY; "
            + "5 WIDE under HELPED; 6 SHUT under ONEWAY");
        EvenTally x = new EvenTally();
        Bench.due("kind -1", x.street(-1, 0), -1);
        Bench.due("kind 7", x.street(7, 0), -1);
        Bench.due("kind MIN", x.street(MIN, 0), -1);
        Bench.due("kind MAX", x.street(MAX, 0), -1);
        Bench.due("none of them is there", x.count(0), 0);
        for (int kind = 0; kind <= 6; kind++) {
            Bench.due("kind " + kind, x.street(kind, kind + 1), kind);
            Bench.due("it is of kind " + kind, x.of(kind, 0), kind);
        }
        Bench.sentence("A STREET taken for a KIND k (0 .. 6), or one under that: its v.");
        int[] above = {1, 3, 5, 9, 19, 37, 73};
        for (int s = 0; s <= 6; s++) {
            for (int k = 0; k <= 6; k++) {
                Bench.due(s + " as " + k, x.as(s, k), (above[s] >> k & 1) == 1 ? s + 1 : -6);
            }
        }
    }

    private static void numbers() {
        Bench.sentence("a number v (0 .. 9)");
        EvenTally x = new EvenTally();
        Bench.due("v -1", x.street(0, -1), -2);
        Bench.due("v 10", x.street(0, 10), -2);
        Bench.due("v MIN", x.street(0, MIN), -2);
        Bench.due("v MAX", x.street(0, MAX), -2);
        Bench.due("none of them is there", x.count(0), 0);
        Bench.due("v 0", x.street(0, 0), 0);
        Bench.due("v 9", x.street(0, 9), 1);
        Bench.due("it is 0", x.of(0, 1), 0);
        Bench.due("it is 9", x.of(1, 1), 9);
        Bench.due("as a street 0", x.as(0, 0), 0);
        Bench.due("as a street 9", x.as(1, 0), 9);
    }

    private static void inAndOut() {
        Bench.sentence("IN, OUT (0 .. 9999; 0 at first)");
        EvenTally x = Bench.streets(2);
        for (int what = 0; what <= 1; what++) {
            Bench.due("at first", x.of(0, 2 + what), 0);
            Bench.due("9999", x.tally(0, what, 9999), 0);
            Bench.due("9999 is there", x.of(0, 2 + what), 9999);
            Bench.due("0", x.tally(0, what, 0), 9999);
            Bench.due("0 is there", x.of(0, 2 + what), 0);
            Bench.due("7", x.tally(0, what, 7), 0);
            Bench.due("-1", x.tally(0, what, -1), -2);
            Bench.due("10000", x.tally(0, what, 10000), -2);
            Bench.due("MIN", x.tally(0, what, MIN), -2);
            Bench.due("MAX", x.tally(0, what, MAX), -2);
            Bench.due("7 is there still", x.of(0, 2 + what), 7);
            Bench.due("the other street's", x.of(1, 2 + what), 0);
        }
        Bench.due("what -1", x.tally(0, -1, 3), -1);
        Bench.due("what 2", x.tally(0, 2, 3), -1);
        Bench.due("what -1 changes nothing", x.of(0, 2) + x.of(0, 3), 14);
    }

    private static void uneven() {
        Bench.sentence("UNEVEN of a STREET: IN less OUT");
        EvenTally x = Bench.uneven(Bench.streets(3), 9999, -9999, 0);
        Bench.due("the most", x.of(0, 4), 9999);
        Bench.due("the least", x.of(1, 4), -9999);
        Bench.due("even", x.of(2, 4), 0);
        Bench.due("together with signs", x.told(2), 0);
        x.tally(2, 0, 9999);
        x.tally(2, 1, 9998);
        Bench.due("one", x.of(2, 4), 1);
        Bench.due("together one", x.told(2), 1);
        EvenTally all = Bench.uneven(Bench.streets(7), -9999, -9999, -9999, -9999, -9999, -9999, -9999);
        Bench.due("the least of all together", all.told(2), -69993);
        Bench.due("what all pay then", all.told(1), 699930);
        Bench.due("who pays then", all.told(3), 127);
    }

    private static void leads() {
        Bench.sentence("LEADS from a STREET to another one: there, or not (not at first)");
        EvenTally x = Bench.streets(7);
        for (int i = 0; i < 7; i++) {
            Bench.due("at first", x.of(i, 9), 0);
            Bench.due("one street", x.lead(i, i, true), -2);
            Bench.due("one street, away", x.lead(i, i, false), -2);
            Bench.due("behind a refusal", x.of(i, 9), 0);
        }
        Bench.due("away that is not there", x.lead(0, 6, false), 0);
        Bench.due("there", x.lead(0, 6, true), 0);
        Bench.due("there again", x.lead(0, 6, true), 1);
        Bench.due("the way back is another one", x.lead(6, 0, true), 0);
        Bench.due("away", x.lead(0, 6, false), 1);
        Bench.due("away again", x.lead(0, 6, false), 0);
        Bench.due("the way back is there", x.of(6, 9), 1);
        Bench.allLeads(x);
        for (int i = 0; i < 7; i++) {
            Bench.due("to all others", x.of(i, 9), 127 - (1 << i));
        }
    }

    private static void days() {
        Bench.sentence("DAY: 0 .. 99 (0 at first)");
        EvenTally x = new EvenTally();
        Bench.due("at first", x.told(0), 0);
        Bench.due("99", x.day(99), 0);
        Bench.due("-1", x.day(-1), -2);
        Bench.due("100", x.day(100), -2);
        Bench.due("MIN", x.day(MIN), -2);
        Bench.due("MAX", x.day(MAX), -2);
        Bench.due("99 is there still", x.told(0), 99);
        Bench.due("0", x.day(0), 99);
        Bench.due("0 is there", x.told(0), 0);
    }

    // ---- what a test asks for

    /** That a street's fact is so much, from below, as such, and from above. */
    private static void fact(EvenTally x, int street, String letter, int is) {
        String told = letter + " of " + street + ", which is " + is + ", ";
        Bench.due(told + "=", Bench.holds(x, street, letter + "=" + is), 1);
        Bench.due(told + "<", Bench.holds(x, street, letter + "<" + is), 0);
        Bench.due(told + ">", Bench.holds(x, street, letter + ">" + is), 0);
        if (is < 99) {
            Bench.due(told + "< one more", Bench.holds(x, street, letter + "<" + (is + 1)), 1);
            Bench.due(told + "= one more", Bench.holds(x, street, letter + "=" + (is + 1)), 0);
            Bench.due(told + "> one more", Bench.holds(x, street, letter + ">" + (is + 1)), 0);
        }
        if (is > 0) {
            Bench.due(told + "> one less", Bench.holds(x, street, letter + ">" + (is - 1)), 1);
            Bench.due(told + "= one less", Bench.holds(x, street, letter + "=" + (is - 1)), 0);
            Bench.due(told + "< one less", Bench.holds(x, street, letter + "<" + (is - 1)), 0);
        }
    }

    private static void testsOfTheNumber() {
        Bench.sentence("of a STREET s its number");
        for (int s = 0; s <= 6; s++) {
            EvenTally x = new EvenTally();
            for (int i = 0; i < 7; i++) {
                x.street(0, 9 - i);
            }
            fact(x, s, "s", s);
        }
    }

    private static void testsOfTheKind() {
        Bench.sentence("k its KIND");
        for (int k = 0; k <= 6; k++) {
            fact(Bench.kinds(0, k), 1, "k", k);
        }
    }

    private static void testsOfUneven() {
        Bench.sentence("u how far UNEVEN is from 0");
        for (int u : new int[] {0, 1, 9, 10, 98, 99}) {
            fact(Bench.uneven(Bench.streets(1), u), 0, "u", u);
            fact(Bench.uneven(Bench.streets(1), -u), 0, "u", u);
        }
        for (int u : new int[] {100, 9999, -100, -9999}) {
            EvenTally x = Bench.uneven(Bench.streets(1), u);
            Bench.due(u + " > 99", Bench.holds(x, 0, "u>99"), 1);
            Bench.due(u + " = 99", Bench.holds(x, 0, "u=99"), 0);
            Bench.due(u + " < 99", Bench.holds(x, 0, "u<99"), 0);
        }
        EvenTally x = Bench.streets(1);
        x.tally(0, 0, 9999);
        x.tally(0, 1, 9999);
        fact(x, 0, "u", 0);
    }

    private static void testsOfTheDay() {
        Bench.sentence("d DAY modulo 7");
        int[] days = {0, 1, 6, 7, 8, 13, 14, 97, 98, 99};
        int[] left = {0, 1, 6, 0, 1, 6, 0, 6, 0, 1};
        for (int i = 0; i < days.length; i++) {
            fact(Bench.onDay(Bench.streets(1), days[i]), 0, "d", left[i]);
        }
    }

    private static void testsOfLeads() {
        Bench.sentence("l how many LEADS there are from it");
        fact(Bench.streets(7), 3, "l", 0);
        fact(Bench.leads(Bench.streets(7), "36"), 3, "l", 1);
        fact(Bench.leads(Bench.streets(7), "63 03 43"), 3, "l", 0);
        fact(Bench.allLeads(Bench.streets(7)), 3, "l", 6);
        // That are there, whether they are open or not.
        fact(Bench.leads(Bench.kinds(0, 0, 6, 0), "20 21 23"), 2, "l", 3);
        fact(Bench.leads(Bench.kinds(0, 6), "01"), 0, "l", 1);
        EvenTally x = Bench.leads(Bench.streets(3), "01 02");
        x.lead(0, 1, false);
        fact(x, 0, "l", 1);
    }

    private static void conditions() {
        Bench.sentence("E: T, or T|E. T: F, or F&T. F: !F, (E), or a TEST");
        // y holds of street 0, n does not: what each row of both comes to.
        String[] texts = {"y", "n", "!y", "!n", "!!y", "y|y", "y|n", "n|y", "n|n", "y&y", "y&n", "n&y", "n&n", "n&n|y", "y|n&n",
            "y|y&n", "n&y|y", "(y|y)&n", "n&(y|y)", "!n&n", "!(n&n)", "!y|y", "!(y|y)", "n|n|n|y", "y&y&y&n", "y&n|n&y",
            "y&y|n&n", "n&n|y&y", "(n|y)&(y|n)", "!(!(y)&!n)", "!(n|!(y&!n))", "n|y&!(n|y&n)", "((n|y))&(y)"};
        int[] due = {1, 0, 0, 1, 1, 1, 1, 1, 0, 1, 0, 0, 0, 1, 1, 1, 1, 0, 0, 0, 1, 1, 0, 1, 0, 0,
            1, 1, 1, 1, 1, 1, 1};
        for (int i = 0; i < texts.length; i++) {
            EvenTally x = Bench.streets(1);
            String text = texts[i].replace("y", "s=0").replace("n", "s>0");
            Bench.due(texts[i], Bench.holds(x, 0, text), due[i]);
        }
    }

    // ---- allowed, fines, steps

    private static void allowed() {
        Bench.sentence("ALLOWED of a STREET: the n of all allow whose E holds, together");
        EvenTally x = Bench.streets(2);
        Bench.due("without a town", x.of(0, 5), 0);
        Bench.withTown(x, "allow 0 s=0;allow 99 s=1;allow 99 s=1;allow 99 s=1;allow 99 s=1;allow 99 s=1;allow 99 s=1");
        Bench.due("0", x.of(0, 5), 0);
        Bench.due("six times 99", x.of(1, 5), 594);
        Bench.withTown(x, "fine 1 s=0;allow 1 s=0;step 1 s=0;allow 20 s=0;allow 50 s=1");
        Bench.due("the first and the last that hold", x.of(0, 5), 21);
    }

    private static void sundays() {
        Bench.sentence("SUNDAY: v more, if DAY is a multiple of 7");
        EvenTally x = new EvenTally();
        x.street(1, 9);
        x.street(1, 0);
        x.street(0, 9);
        Bench.withTown(x, "allow 3 s<3");
        for (int day = 0, left = 0; day <= 99; day++, left = left == 6 ? 0 : left + 1) {
            x.day(day);
            Bench.due("on day " + day, x.of(0, 5), left == 0 ? 12 : 3);
        }
        x.day(0);
        Bench.due("v 0", x.of(1, 5), 3);
        Bench.due("of another kind", x.of(2, 5), 3);
    }

    private static void free() {
        Bench.sentence("FREE: 9999 in place of all that");
        EvenTally x = new EvenTally();
        x.street(4, 9);
        Bench.due("on a sunday", x.of(0, 5), 9999);
        Bench.withTown(x, "allow 99 s=0");
        Bench.due("with an allow", x.of(0, 5), 9999);
        x.day(1);
        Bench.due("on a monday", x.of(0, 5), 9999);
        Bench.uneven(x, 9999);
        Bench.due("it never pays", x.of(0, 8), 0);
        Bench.uneven(x, -9999);
        Bench.due("it never pays, below 0", x.of(0, 8), 0);
        Bench.due("none pays", x.told(1) + x.told(3), 0);
    }

    private static void fines() {
        Bench.sentence("FINE of it: 10, and the n of all fine whose E holds, together");
        EvenTally x = Bench.streets(2);
        Bench.due("without a town", x.of(0, 6), 10);
        Bench.withTown(x, "fine 0 s=0;fine 99 s=1;fine 99 s=1;fine 99 s=1;fine 99 s=1;fine 99 s=1;fine 99 s=1");
        Bench.due("0", x.of(0, 6), 10);
        Bench.due("six times 99", x.of(1, 6), 604);
        Bench.uneven(x, 0, -9999);
        Bench.due("the most of it", x.of(1, 8), 604 * 9999);
    }

    private static void halves() {
        Bench.sentence("HELPED, WIDE: the half of that (cut)");
        EvenTally x = Bench.kinds(0, 1, 2, 3, 4, 5, 6);
        int[] ten = {10, 10, 5, 10, 10, 5, 10};
        int[] eleven = {11, 11, 5, 11, 11, 5, 11};
        int[] twelve = {12, 12, 6, 12, 12, 6, 12};
        for (int i = 0; i < 7; i++) {
            Bench.due("10 of kind " + i, x.of(i, 6), ten[i]);
        }
        Bench.withTown(x, "fine 1 s<7");
        for (int i = 0; i < 7; i++) {
            Bench.due("11 of kind " + i, x.of(i, 6), eleven[i]);
        }
        // Cut once, of both together.
        Bench.withTown(x, "fine 1 s<7;fine 1 s<7");
        for (int i = 0; i < 7; i++) {
            Bench.due("12 of kind " + i, x.of(i, 6), twelve[i]);
        }
    }

    private static void steps() {
        Bench.sentence("STEP of it: 1, and the n of all step whose E holds, together");
        EvenTally x = Bench.streets(2);
        Bench.due("without a town", x.of(0, 7), 1);
        Bench.withTown(x, "step 0 s=0;step 99 s=1;step 99 s=1;step 99 s=1;step 99 s=1;step 99 s=1;step 99 s=1");
        Bench.due("0", x.of(0, 7), 1);
        Bench.due("six times 99", x.of(1, 7), 595);
    }

    private static void wideSteps() {
        Bench.sentence("WIDE: 1 less");
        EvenTally x = Bench.kinds(0, 1, 2, 3, 4, 5, 6);
        for (int i = 0; i < 7; i++) {
            Bench.due("of kind " + i, x.of(i, 7), i == 5 ? 0 : 1);
        }
        Bench.withTown(x, "step 0 s<7;step 4 s<7");
        for (int i = 0; i < 7; i++) {
            Bench.due("four more of kind " + i, x.of(i, 7), i == 5 ? 4 : 5);
        }
    }

    // ---- open

    private static void oneWay() {
        Bench.sentence("OPEN is a LEAD that is there, if it is not from a ONEWAY or SHUT STREET to one with a lesser number");
        for (int kind = 0; kind <= 6; kind++) {
            // All v rise against the numbers, so that these are not taken for those.
            EvenTally x = new EvenTally();
            for (int i = 0; i < 7; i++) {
                x.street(i == 3 ? kind : 0, 9 - i);
            }
            Bench.due("not there, from kind " + kind, x.of(3, 10), 0);
            Bench.allLeads(x);
            Bench.due("from kind " + kind, x.of(3, 10), kind == 3 || kind == 6 ? 112 : 119);
            Bench.due("there, from kind " + kind, x.of(3, 9), 119);
        }
        EvenTally x = Bench.allLeads(Bench.kinds(3, 3, 3));
        Bench.due("from the first", x.of(0, 10), 6);
        Bench.due("from the second", x.of(1, 10), 4);
        Bench.due("from the last", x.of(2, 10), 0);
    }

    private static void shut() {
        Bench.sentence("nor to a SHUT one when DAY is a multiple of (its v and 2, together)");
        for (int kind = 0; kind <= 6; kind++) {
            EvenTally x = Bench.leads(Bench.kinds(0, kind, 3, 6), "01 13 23");
            Bench.due("to kind " + kind, x.of(0, 10), kind == 6 ? 0 : 2);
            Bench.due("from kind " + kind + " to a shut one", x.of(1, 10), 0);
            Bench.due("from a one way one to a shut one", x.of(2, 10), 0);
            x.day(1);
            Bench.due("on another day to kind " + kind, x.of(0, 10), 2);
            Bench.due("on another day from kind " + kind, x.of(1, 10), 8);
            Bench.due("on another day from a one way one", x.of(2, 10), 8);
        }
        // It is one way also when it is not shut, and one may leave it when it is shut.
        EvenTally x = Bench.allLeads(Bench.kinds(0, 6, 0));
        Bench.due("from the shut one", x.of(1, 10), 4);
        x.day(1);
        Bench.due("on another day from the shut one", x.of(1, 10), 4);
        Bench.due("on another day to the shut one, from below", x.of(0, 10), 6);
        Bench.due("on another day to the shut one, from above", x.of(2, 10), 3);
    }

    private static void shutByDays() {
        Bench.sentence("when DAY is a multiple of (its v and 2, together)");
        for (int v = 0; v <= 9; v++) {
            EvenTally x = new EvenTally();
            x.street(0, 0);
            x.street(6, v);
            x.lead(0, 1, true);
            for (int day = 0, next = 0; day <= 99; day++) {
                x.day(day);
                Bench.due("v " + v + " on day " + day, x.of(0, 10), day == next ? 0 : 2);
                next += day == next ? v + 2 : 0;
            }
        }
    }

    // ---- who pays, goings

    private static void pays() {
        Bench.sentence("PAYS of a STREET: FINE times how far UNEVEN is from 0 beyond ALLOWED (0, if it is not)");
        EvenTally x = Bench.withTown(Bench.streets(1), "allow 5 s=0;fine 3 s=0");
        int[] by = {0, 4, 5, 6, 7, 9999, -4, -5, -6, -9999};
        int[] due = {0, 0, 0, 13, 26, 9994 * 13, 0, 0, 13, 9994 * 13};
        for (int i = 0; i < by.length; i++) {
            Bench.uneven(x, by[i]);
            Bench.due("uneven by " + by[i], x.of(0, 8), due[i]);
            Bench.due("all, uneven by " + by[i], x.told(1), due[i]);
            Bench.due("who, uneven by " + by[i], x.told(3), due[i] > 0 ? 1 : 0);
        }
        EvenTally all = Bench.withTown(Bench.uneven(Bench.streets(7), 9999, -9999, 9999, 9999, 9999, 9999, -9999),
            "fine 99 s<9;fine 99 s<9;fine 99 s<9;fine 99 s<9;fine 99 s<9;fine 99 s<9;fine 99 s<9;fine 99 s<9");
        Bench.due("all at the most", all.told(1), 7 * 9999 * 802);
        Bench.due("all at the most, cheapest", all.cost(1), 7 * 9999 * 802);
        Bench.due("all at the most, all together", all.told(2), 3 * 9999);
    }

    private static void goings() {
        Bench.sentence("A GOING of n (1 .. 9): UNEVEN of the other one then.");
        EvenTally x = Bench.leads(Bench.uneven(Bench.streets(2), 0, -3), "01");
        Bench.due("of 1", x.go(0, 1, 1), -2);
        Bench.due("of 9", x.go(0, 1, 9), 7);
        Bench.due("OUT of the one is n more", x.of(0, 3), 10);
        Bench.due("IN of the one is not", x.of(0, 2), 0);
        Bench.due("IN of the other one is n more", x.of(1, 2), 10);
        Bench.due("OUT of the other one is not", x.of(1, 3), 3);
        Bench.due("of 0", x.go(0, 1, 0), Bench.FAR_BAD);
        Bench.due("of 10", x.go(0, 1, 10), Bench.FAR_BAD);
        Bench.due("of -1", x.go(0, 1, -1), Bench.FAR_BAD);
        Bench.due("of MIN", x.go(0, 1, MIN), Bench.FAR_BAD);
        Bench.due("of MAX", x.go(0, 1, MAX), Bench.FAR_BAD);
        Bench.due("OUT is as it was", x.of(0, 3), 10);
        Bench.due("IN is as it was", x.of(1, 2), 10);
        Bench.uneven(x, 0, -9999);
        Bench.due("-9999 and 1", x.go(0, 1, 1), -9998);
    }

    private static void goingsTo9999() {
        Bench.sentence("or IN, OUT would be above 9999");
        for (int n = 1; n <= 9; n++) {
            EvenTally x = Bench.leads(Bench.streets(2), "01 10");
            x.tally(0, 1, 9999 - n);
            Bench.due("OUT to 9999 by " + n, x.go(0, 1, n), n);
            Bench.due("OUT is 9999", x.of(0, 3), 9999);
            Bench.due("OUT above 9999", x.go(0, 1, 1), Bench.FAR_STATE);
            x.tally(0, 1, 10000 - n);
            Bench.due("OUT above 9999 by " + n, x.go(0, 1, n), Bench.FAR_STATE);
            Bench.due("OUT is as it was", x.of(0, 3), 10000 - n);
            Bench.due("IN is as it was", x.of(1, 2), n);
            EvenTally y = Bench.leads(Bench.streets(2), "01 10");
            y.tally(1, 0, 9999 - n);
            Bench.due("IN to 9999 by " + n, y.go(0, 1, n), 9999);
            Bench.due("IN is 9999", y.of(1, 2), 9999);
            Bench.due("IN above 9999", y.go(0, 1, 1), Bench.FAR_STATE);
            y.tally(1, 0, 10000 - n);
            Bench.due("IN above 9999 by " + n, y.go(0, 1, n), Bench.FAR_STATE);
            Bench.due("IN is still as it was", y.of(1, 2), 10000 - n);
            Bench.due("OUT is still as it was", y.of(0, 3), n);
        }
        // IN of the one and OUT of the other one have no part in it.
        EvenTally x = Bench.leads(Bench.streets(2), "01");
        x.tally(0, 0, 9999);
        x.tally(1, 1, 9999);
        Bench.due("IN of the one, OUT of the other", x.go(0, 1, 9), -9990);
    }

    private static void goingsByOpenLeads() {
        Bench.sentence("STATE: no OPEN LEAD (one STREET, too)");
        EvenTally x = Bench.leads(Bench.kinds(0, 3, 6), "10 02 12 21");
        Bench.due("one street", x.go(0, 0, 1), Bench.FAR_STATE);
        Bench.due("no lead", x.go(0, 1, 1), Bench.FAR_STATE);
        Bench.due("one way", x.go(1, 0, 1), Bench.FAR_STATE);
        Bench.due("one way from a shut one", x.go(2, 1, 1), Bench.FAR_STATE);
        Bench.due("to a shut one", x.go(0, 2, 1), Bench.FAR_STATE);
        Bench.due("one way to a shut one", x.go(1, 2, 1), Bench.FAR_STATE);
        for (int i = 0; i < 3; i++) {
            Bench.due("nobody went from or to " + i, x.of(i, 2) + x.of(i, 3), 0);
        }
        x.day(1);
        Bench.due("to one that is not shut", x.go(0, 2, 1), 1);
        Bench.due("one way to one that is not shut", x.go(1, 2, 1), 2);
        x.lead(0, 2, false);
        Bench.due("a lead that is gone", x.go(0, 2, 1), Bench.FAR_STATE);
    }
}

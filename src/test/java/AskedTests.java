/** The boundaries of chapter 2 of the Terms up to the tallies told by hand, a test a sentence. */
public final class AskedTests {
    private static final int MAX = Bench.MAX, MIN = Bench.MIN;
    private static final long NO = Long.MIN_VALUE;

    public static void main(String[] args) {
        changesNothing();
        asTheyAreNow();
        inThoughtWithoutBound();
        costsOfAGoing();
        leastByNone();
        leastWithinAllowed();
        leastTogether();
        cheapest();
        allTheLeadsThereCanBe();
        gates();
        gatesOf9999();
        newLeads();
        neededLeads();
        ways();
        errandsToNone();
        errandsToItself();
        errandsByNone();
        firstOrders();
        setsOfStreets();
        placesInOrders();
        stands();
        standsOfSeveral();
        standsByNone();
        rowsOfNone();
        rowsOf20();
        rowsBelow0And21();
        straysOfNone();
        straysThatStay();
        straysInLowestTerms();
        straysOf6();
        straysBelow0And7();
        talliesFrom0To999();
        sevenTallies();
        talliesOfStreetsThatAreNot();
        off();
        wrongIn();
        wrongOut();
        Bench.end("AskedTests");
    }

    // ---- asked

    private static EvenTally busy() {
        EvenTally x = Bench.allLeads(Bench.kinds(0, 3, 6, 5, 1));
        x.day(13);
        Bench.uneven(x, 5, -7, 3, -2, 9);
        Bench.town(x, "step 2 s<3;allow 1 u>4");
        x.tell(5, 4);
        x.tell(3, 9);
        x.act(2, 2, 5);
        x.image();
        x.tally(1, 1, 8);
        Bench.feed(x, "fine 9 s<4");
        return x;
    }

    private static void changesNothing() {
        Bench.sentence("All that follows is asked, and changes nothing");
        EvenTally once = busy();
        int least = once.cost(0), cheapest = once.cost(1);
        Bench.still("cost(0)", AskedTests::busy, x -> x.cost(0), least);
        Bench.still("cost(1)", AskedTests::busy, x -> x.cost(1), cheapest);
        Bench.still("gate", AskedTests::busy, x -> x.gate(1) - x.gate(1), 0);
        Bench.still("fresh", AskedTests::busy, x -> x.fresh(4, 1) - x.fresh(4, 1), 0);
        Bench.still("need", AskedTests::busy, x -> x.need(4, 3) - x.need(4, 3), 0);
        Bench.still("way", AskedTests::busy, x -> x.way(0, 1), 3);
        Bench.still("errands", AskedTests::busy, x -> x.errands(0, 27, 0), 0);
        Bench.still("stand", AskedTests::busy, x -> x.stand(), 3);
        Bench.still("ways", AskedTests::busy, x -> x.ways(0, 1, 1), 1);
        Bench.still("stray", AskedTests::busy, x -> x.stray(0, 1, 1, 1), 4);
        Bench.still("wrong", AskedTests::busy, x -> x.wrong(0), -5);
        Bench.still("trace", AskedTests::busy, x -> x.trace(0), 31);
        Bench.still("as", AskedTests::busy, x -> x.as(2, 3), 0);
        Bench.still("count", AskedTests::busy, x -> x.count(3), 10);
        Bench.still("of", AskedTests::busy, x -> x.of(1, 4), -8);
        Bench.still("told", AskedTests::busy, x -> x.told(2), 7);
        // What one call asks is not left over for the next.
        EvenTally x = busy();
        x.gate(0);
        x.fresh(4, 1);
        x.need(4, 3);
        Bench.due("cheapest behind a gate, a new lead, a needed one", x.cost(1), cheapest);
        x.errands(4, 31, -1);
        Bench.due("a part of the set behind the whole", x.errands(0, 0, -1), 0);
        x.stray(0, 1, 6, 0);
        Bench.due("ways behind a stray", x.ways(0, 0, 0), 1);
    }

    private static void asTheyAreNow() {
        Bench.sentence("(ALLOWED, FINE, STEP as they are now)");
        // One goes, and behind that the tests of u and l would be otherwise.
        EvenTally x = Bench.uneven(Bench.leads(Bench.streets(2), "01"), 2, -2);
        Bench.withTown(x, "step 8 u<2");
        Bench.due("steps as u is now", x.cost(0), 2);
        Bench.withTown(x, "allow 1 u=2;fine 5 u=2");
        Bench.due("allowed as u is now", x.cost(0), 1);
        Bench.due("fines as u is now, without a lead", x.need(0, 1), 2 * 15 - 1);
        Bench.withTown(x, "step 7 l>1;fine 20 l=0;allow 9 l=2");
        x.lead(0, 1, false);
        Bench.due("fines and steps as l is now, with a new lead", x.fresh(0, 1), 2 * 30 + 2 * 30 - 2);
        x.lead(0, 1, true);
        Bench.due("fines as l is now, with one lead less", x.need(0, 1), 2 * 10 + 2 * 30 - 2);
        Bench.withTown(x, "fine 6 u<9");
        Bench.due("fines as u is now, with a gate", x.gate(0), 2 - 2);
        x.lead(0, 1, false);
        Bench.due("fines as u is now, with a gate alone", x.gate(0), 32);
    }

    private static void inThoughtWithoutBound() {
        Bench.sentence("(in thought OUT, IN have no bound)");
        EvenTally x = Bench.leads(Bench.streets(3), "01 12");
        x.tally(0, 0, 9999);
        x.tally(0, 1, 9998);
        x.tally(1, 0, 9999);
        x.tally(1, 1, 9999);
        x.tally(2, 0, 9998);
        x.tally(2, 1, 9999);
        Bench.due("no going", x.go(0, 1, 1), Bench.FAR_STATE);
        Bench.due("but in thought", x.cost(0), 2);
        Bench.due("cheapest", x.cost(1), 2);
        Bench.due("its lead is needed", x.need(0, 1), 18);
        Bench.due("its way", x.way(0, 2), 2);
        x = Bench.leads(Bench.kinds(4, 0, 0), "10 20");
        Bench.uneven(x, 0, 9999, 9999);
        // Both may go there, though IN would be 19998; the second pays there instead.
        Bench.due("IN beyond 9999, least", x.cost(0), -5);
        Bench.due("IN beyond 9999, cheapest", x.cost(1), 9999 + 99990);
    }

    private static void costsOfAGoing() {
        Bench.sentence("A GOING of 1 by an OPEN LEAD costs STEP of the STREET from which it goes");
        EvenTally x = Bench.uneven(Bench.leads(Bench.streets(3), "01 12"), 1, 0, -1);
        Bench.withTown(x, "step 3 s=0;step 5 s=1;step 90 s=2");
        Bench.due("least", x.cost(0), 4 + 6);
        Bench.due("way", x.way(0, 2), 4 + 6);
        EvenTally wide = Bench.uneven(Bench.leads(Bench.kinds(5, 5), "01 10"), 9999, -9999);
        Bench.due("for nothing", wide.cost(0), 0);
        Bench.due("for nothing, cheapest", wide.cost(1), 0);
        Bench.due("a way for nothing", wide.way(0, 1), 0);
        Bench.due("errands for nothing", wide.errands(0, 3, -1), 0);
    }

    // ---- cheapest

    private static void leastByNone() {
        Bench.sentence("LEAST: the least cost, together, of GOINGS behind which no STREET is farther UNEVEN than ALLOWED (-5: by none)");
        Bench.due("no street", new EvenTally().cost(0), 0);
        Bench.due("one that is even", Bench.streets(1).cost(0), 0);
        Bench.due("one too many", Bench.uneven(Bench.streets(1), 1).cost(0), -5);
        Bench.due("one too few", Bench.uneven(Bench.streets(1), -1).cost(0), -5);
        EvenTally x = Bench.uneven(Bench.streets(2), 1, -1);
        Bench.due("no lead", x.cost(0), -5);
        Bench.leads(x, "10");
        Bench.due("a lead the other way", x.cost(0), -5);
        Bench.leads(x, "01");
        Bench.due("a lead", x.cost(0), 1);
        Bench.uneven(x, 2, -1);
        Bench.due("one left over", x.cost(0), -5);
        Bench.uneven(x, 1, -2);
        Bench.due("one missing", x.cost(0), -5);
        Bench.uneven(x, -9999, 9999);
        Bench.due("all that one can have", x.cost(0), 9999);
        EvenTally shut = Bench.uneven(Bench.leads(Bench.kinds(0, 6), "01"), 1, -1);
        Bench.due("not open", shut.cost(0), -5);
        shut.day(1);
        Bench.due("open on another day", shut.cost(0), 1);
        EvenTally far = Bench.uneven(Bench.leads(Bench.streets(7), "65 54 43 32 21 10"), -9999, 0, 0, 0, 0, 0, 9999);
        Bench.due("as far as can be", far.cost(0), 6 * 9999);
        Bench.withTown(far, "step 99 s<9;step 99 s<9;step 99 s<9;step 99 s<9;step 99 s<9;step 99 s<9;step 99 s<9;step 99 s<9");
        Bench.due("as dear as can be", far.cost(0), 6 * 9999 * 793);
        EvenTally most = Bench.uneven(Bench.leads(Bench.streets(7), "01 12 23 34 45 56"), 9999, 9999, 9999, 0, -9999, -9999, -9999);
        Bench.due("as many as can be", most.cost(0), 4 * 3 * 9999);
    }

    private static void leastWithinAllowed() {
        Bench.sentence("no STREET is farther UNEVEN than ALLOWED");
        EvenTally x = Bench.withTown(Bench.leads(Bench.streets(2), "01"), "allow 3 s=0;allow 2 s=1");
        int[][] by = {{3, 0}, {4, 0}, {5, 0}, {6, 0}, {-3, 0}, {-4, 0}, {3, 2}, {3, 3}, {0, -2}, {0, -3}, {-3, -2}, {-3, -3},
            {5, -5}, {4, -7}};
        int[] due = {0, 1, 2, -5, 0, -5, 0, -5, 0, 1, 0, -5, 3, 5};
        for (int i = 0; i < by.length; i++) {
            Bench.uneven(x, by[i]);
            Bench.due("uneven by " + by[i][0] + " and " + by[i][1], x.cost(0), due[i]);
        }
    }

    private static void leastTogether() {
        Bench.sentence("LEAST: the least cost, together");
        // The cheapest going of the one street takes what the other one alone can't do without.
        EvenTally x = Bench.uneven(Bench.leads(Bench.streets(4), "02 03 12"), 1, 1, -1, -1);
        Bench.withTown(x, "step 3 s=1");
        Bench.due("the first goes to 3", x.cost(0), 1 + 4);
        EvenTally y = Bench.uneven(Bench.leads(Bench.streets(5), "02 04 43 12"), 1, 1, -1, -1, 0);
        Bench.withTown(y, "step 9 s=1;step 5 s=4");
        Bench.due("the first goes to 3 by 4", y.cost(0), 1 + 6 + 10);
        Bench.due("cheapest", y.cost(1), 1 + 6 + 10);
        EvenTally z = Bench.uneven(Bench.leads(Bench.streets(4), "02 03 13"), 2, 1, -1, -2);
        Bench.due("three go", z.cost(0), 3);
        // The first street's one, sent to 2 as the nearest, is had back: it has to send two to 3.
        EvenTally back = Bench.uneven(Bench.leads(Bench.streets(4), "03 02 12"), 1, 2, -2, -2);
        Bench.withTown(back, "allow 1 s<2");
        Bench.due("the first goes to 3 alone", back.cost(0), 4);
    }

    private static void cheapest() {
        Bench.sentence("CHEAPEST: the least of what GOINGS cost and what all PAY behind them, together");
        Bench.due("no street", new EvenTally().cost(1), 0);
        Bench.due("even", Bench.leads(Bench.streets(2), "01 10").cost(1), 0);
        Bench.due("one too many", Bench.uneven(Bench.streets(1), 1).cost(1), 10);
        Bench.due("one too few", Bench.uneven(Bench.streets(1), -1).cost(1), 10);
        EvenTally x = Bench.uneven(Bench.leads(Bench.streets(2), "01"), 1, -1);
        // Where it costs as much as both pay is the boundary.
        int[] steps = {18, 19, 20};
        int[] due = {19, 20, 20};
        for (int i = 0; i < steps.length; i++) {
            Bench.withTown(x, "step " + steps[i] + " s=0");
            Bench.due("a step of " + (steps[i] + 1), x.cost(1), due[i]);
        }
        // One of both only pays less if the other one takes it for less than the step costs.
        EvenTally y = Bench.uneven(Bench.leads(Bench.kinds(0, 2), "01"), 1, 0);
        int[] more = {3, 4, 5};
        int[] less = {9, 10, 10};
        for (int i = 0; i < more.length; i++) {
            Bench.withTown(y, "step " + more[i] + " s=0");
            Bench.due("a helped one takes it, step " + (more[i] + 1), y.cost(1), less[i]);
        }
        // A second going would cost ten, and as much as one of both pays less the other one would pay more.
        EvenTally once = Bench.uneven(Bench.leads(Bench.streets(3), "10"), -1, 2, -2);
        Bench.withTown(once, "step 9 s=1");
        Bench.due("one going, and no second one", once.cost(1), 10 + 10 + 20);
        Bench.due("all at the most", Bench.uneven(Bench.streets(7), 9999, 9999, 9999, 9999, 9999, 9999, 9999).cost(1), 699930);
        Bench.due("what 2", x.cost(2), -1);
        Bench.due("what -1", x.cost(-1), -1);
        Bench.due("what MIN", x.cost(MIN), -1);
        Bench.due("what MAX", x.cost(MAX), -1);
    }

    private static void allTheLeadsThereCanBe() {
        Bench.sentence("STREETS are numbered from 0 on, 7 at most");
        EvenTally x = Bench.allLeads(Bench.streets(7));
        for (int one = 0; one < 7; one++) {
            for (int other = 0; other < 7; other++) {
                if (one != other) {
                    int[] by = new int[7];
                    by[one] = 2;
                    by[other] = -2;
                    Bench.uneven(x, by);
                    String told = " from " + one + " to " + other + " of all leads";
                    Bench.due("cheapest" + told, x.cost(1), 2);
                    Bench.due("need" + told, x.need(one, other), 2);
                }
            }
        }
        EvenTally y = Bench.allLeads(Bench.streets(7));
        for (int one = 0; one < 7; one++) {
            int[] by = {-1, -1, -1, -1, -1, -1, -1};
            by[one] = 6;
            Bench.uneven(y, by);
            Bench.due("least from " + one + " to all", y.cost(0), 6);
            for (int i = 0; i < 7; i++) {
                by[i] = -by[i];
            }
            Bench.uneven(y, by);
            Bench.due("least from all to " + one, y.cost(0), 6);
        }
    }

    private static void gates() {
        Bench.sentence("GATE of a STREET: how much less CHEAPEST would be, if its ALLOWED were 9999");
        EvenTally x = Bench.uneven(Bench.streets(2), 1, -9999);
        Bench.due("of one that pays for one", x.gate(0), 10);
        Bench.due("of one that pays for all", x.gate(1), 99990);
        Bench.due("of one that is even", Bench.streets(1).gate(0), 0);
        Bench.due("of the last one", Bench.uneven(Bench.streets(7), 0, 0, 0, 0, 0, 0, 2).gate(6), 20);
        EvenTally y = Bench.uneven(Bench.leads(Bench.streets(2), "01"), 5, 0);
        Bench.due("of one that could take them", y.gate(1), 50 - 5);
        Bench.due("street -1", y.gate(-1), -1);
        Bench.due("street 2", y.gate(2), -1);
        Bench.due("street MIN", y.gate(MIN), -1);
        Bench.due("street MAX", y.gate(MAX), -1);
        EvenTally free = Bench.uneven(Bench.kinds(4), 9999);
        Bench.due("of a free one", free.gate(0), 0);
        EvenTally allowed = Bench.withTown(Bench.uneven(Bench.streets(1), 7), "allow 6 s=0");
        Bench.due("of one that pays beyond allowed", allowed.gate(0), 10);
    }

    private static void gatesOf9999() {
        Bench.sentence("if its ALLOWED were 9999");
        // What comes to 9999 in all is allowed, one more is not.
        EvenTally x = Bench.uneven(Bench.leads(Bench.streets(2), "01"), 9, 9990);
        Bench.due("up to 9999", x.gate(1), (9 + 9990) * 10 - 9);
        Bench.uneven(x, 10, 9990);
        Bench.due("one beyond 9999", x.gate(1), (10 + 9990) * 10 - (9 + 10));
        // Below 0 likewise: the street sends what it does not have.
        EvenTally y = Bench.uneven(Bench.leads(Bench.streets(2), "10"), -9, -9990);
        Bench.due("down to -9999", y.gate(1), (9 + 9990) * 10 - 9);
        Bench.uneven(y, -10, -9990);
        Bench.due("one below -9999", y.gate(1), (10 + 9990) * 10 - (9 + 10));
    }

    private static void newLeads() {
        Bench.sentence("NEW of two STREETS: how much less it would be, if there were an OPEN LEAD from the one to the other");
        EvenTally x = Bench.uneven(Bench.streets(7), 4, 0, 0, 0, 0, 0, -4);
        Bench.due("from the first to the last", x.fresh(0, 6), 76);
        Bench.due("from the last to the first", x.fresh(6, 0), 0);
        Bench.due("the lead is not there", x.of(0, 9), 0);
        Bench.leads(x, "06");
        Bench.due("there is one", x.fresh(0, 6), 0);
        Bench.due("one street", x.fresh(6, 6), -2);
        for (int no : new int[] {-1, 7, MIN, MAX}) {
            Bench.due("one " + no, x.fresh(no, 0), -1);
            Bench.due("other " + no, x.fresh(0, no), -1);
            Bench.due("both " + no, x.fresh(no, no), -1);
        }
        EvenTally y = Bench.uneven(Bench.kinds(3, 6, 0), -3, 3, 0);
        Bench.due("an open one from a shut street back", y.fresh(1, 0), 57);
        Bench.uneven(y, 3, -3, 0);
        Bench.due("an open one to a shut street", y.fresh(0, 1), 57);
        Bench.leads(y, "01");
        Bench.due("one that is there, but not open", y.fresh(0, 1), 57);
    }

    private static void neededLeads() {
        Bench.sentence("NEED of two STREETS: how much more it would be, if there were no LEAD from the one to the other");
        EvenTally x = Bench.uneven(Bench.leads(Bench.streets(7), "06 01 16"), 4, 0, 0, 0, 0, 0, -4);
        Bench.due("with a way round", x.need(0, 6), 4);
        Bench.due("the lead is there", x.of(0, 9), 66);
        x.lead(1, 6, false);
        Bench.due("without one", x.need(0, 6), 76);
        Bench.due("that nobody goes by", x.need(0, 1), 0);
        Bench.sentence("NEED (0: there is no OPEN one)");
        Bench.due("no lead", x.need(6, 0), 0);
        EvenTally y = Bench.uneven(Bench.leads(Bench.kinds(0, 3, 6), "10 02"), -2, 2, 0);
        Bench.due("one way", y.need(1, 0), 0);
        Bench.due("shut", y.need(0, 2), 0);
        Bench.due("one street", y.need(0, 0), -2);
        for (int no : new int[] {-1, 3, 7, MIN, MAX}) {
            Bench.due("one " + no, y.need(no, 0), -1);
            Bench.due("other " + no, y.need(0, no), -1);
            Bench.due("both " + no, y.need(no, no), -1);
        }
    }

    // ---- ways, errands

    private static void ways() {
        Bench.sentence("WAY of two STREETS: the least cost of GOINGS by which one comes from the one to the other (0: one STREET; -5: by none)");
        EvenTally x = Bench.leads(Bench.streets(7), "01 12 23 34 45 56");
        for (int i = 0; i < 7; i++) {
            Bench.due("one street " + i, x.way(i, i), 0);
            Bench.due("to " + i, x.way(0, i), i);
            Bench.due("back from " + i, x.way(i, 0), i == 0 ? 0 : -5);
        }
        Bench.withTown(x, "step 99 s<9;step 99 s<9;step 99 s<9;step 99 s<9;step 99 s<9;step 99 s<9;step 99 s<9;step 99 s<9");
        Bench.due("as dear as can be", x.way(0, 6), 6 * 793);
        Bench.due("one street costs nothing", x.way(3, 3), 0);
        Bench.leads(x, "60");
        Bench.due("home costs nothing with a round", x.way(3, 3), 0);
        Bench.due("round to the first", x.way(3, 0), 4 * 793);
        Bench.due("round by the first", x.way(6, 5), 6 * 793);
        for (int no : new int[] {-1, 7, MIN, MAX}) {
            Bench.due("one " + no, x.way(no, 0), -1);
            Bench.due("other " + no, x.way(0, no), -1);
            Bench.due("both " + no, x.way(no, no), -1);
        }
        EvenTally shut = Bench.leads(Bench.kinds(0, 6, 0), "01 12 02");
        Bench.withTown(shut, "step 9 l=2");
        Bench.due("past a shut one", shut.way(0, 2), 10);
        Bench.due("to a shut one", shut.way(0, 1), -5);
        Bench.due("from a shut one", shut.way(1, 2), 1);
    }

    private static void errandsToNone() {
        Bench.sentence("ERRANDS from a STREET to a set of STREETS (bits; also none, or itself)");
        EvenTally x = Bench.leads(Bench.streets(2), "01 10");
        Bench.due("to none", x.errands(1, 0, -1), 0);
        for (int k = 0; k <= 6; k++) {
            Bench.due("to none, " + k, x.errands(1, 0, k), -5);
        }
        Bench.due("to none, without leads", Bench.streets(1).errands(0, 0, -1), 0);
    }

    private static void errandsToItself() {
        Bench.sentence("ERRANDS from a STREET to a set of STREETS (bits; also none, or itself)");
        EvenTally x = Bench.leads(Bench.streets(3), "01 10");
        Bench.due("to itself", x.errands(1, 2, -1), 0);
        Bench.due("to itself, the order", x.errands(1, 2, 0), 1);
        Bench.due("to itself, no more", x.errands(1, 2, 1), -5);
        Bench.due("without leads", x.errands(2, 4, -1), 0);
        Bench.due("without leads, the order", x.errands(2, 4, 0), 2);
        Bench.due("to itself and another one", x.errands(1, 3, -1), 2);
        Bench.due("to itself and another one, first", x.errands(1, 3, 0), 0);
        Bench.due("to itself and another one, then", x.errands(1, 3, 1), 1);
        Bench.due("to itself and another one, no more", x.errands(1, 3, 2), -5);
    }

    private static void errandsByNone() {
        Bench.sentence("and back (-5: by none)");
        EvenTally x = Bench.leads(Bench.streets(4), "01 10 12 30");
        Bench.due("there and back", x.errands(0, 2, -1), 2);
        Bench.due("there, but not back", x.errands(0, 4, -1), -5);
        Bench.due("not there, but back", x.errands(0, 8, -1), -5);
        Bench.due("one of two", x.errands(0, 6, -1), -5);
        Bench.sentence("else the k-th STREET of the order (-5: there are fewer, or by none)");
        for (int k = 0; k <= 6; k++) {
            Bench.due("not back, " + k, x.errands(0, 4, k), -5);
            Bench.due("one of two, " + k, x.errands(0, 6, k), -5);
            Bench.due("itself and one by none, " + k, x.errands(0, 5, k), -5);
            Bench.due("all, of which one is by none, " + k, x.errands(2, 15, k), -5);
        }
        EvenTally ring = Bench.leads(Bench.streets(7), "01 12 23 34 45 56 60");
        Bench.withTown(ring, "step 99 s<9;step 99 s<9;step 99 s<9;step 99 s<9;step 99 s<9;step 99 s<9;step 99 s<9;step 99 s<9");
        Bench.due("as dear as can be", ring.errands(3, 127, -1), 7 * 793);
    }

    private static void firstOrders() {
        Bench.sentence("the first order, as a row, by which it is that");
        EvenTally x = Bench.allLeads(Bench.streets(7));
        for (int k = 0; k < 7; k++) {
            // From the last one all orders cost as much; itself comes last, as a row.
            Bench.due("of all that are alike, " + k, x.errands(6, 127, k), k);
        }
        Bench.due("what it costs", x.errands(6, 127, -1), 7);
        Bench.due("from the first one", x.errands(0, 127, 0), 0);
        Bench.due("from the first one, last", x.errands(0, 127, 6), 6);
        // A round against the numbers has one order only.
        EvenTally y = Bench.leads(Bench.streets(4), "03 32 21 10");
        for (int k = 0; k < 3; k++) {
            Bench.due("of a round, " + k, y.errands(0, 14, k), 3 - k);
        }
        Bench.due("of a round, no more", y.errands(0, 14, 3), -5);
        Bench.due("of a round, what it costs", y.errands(0, 14, -1), 4);
        // The cheapest one goes first, though it is not the first as a row.
        EvenTally z = Bench.withTown(Bench.leads(Bench.streets(3), "01 02 10 12 21"), "step 5 l>1");
        Bench.due("what it costs by 2", z.errands(0, 6, -1), 6 + 1 + 6);
        Bench.due("2 ahead of 1", z.errands(0, 6, 0), 2);
        Bench.due("1 behind 2", z.errands(0, 6, 1), 1);
    }

    private static void setsOfStreets() {
        Bench.sentence("BAD: set");
        for (int n = 1; n <= 7; n++) {
            EvenTally x = Bench.allLeads(Bench.streets(n));
            Bench.due("all of " + n, x.errands(0, (1 << n) - 1, -1), n == 1 ? 0 : n);
            Bench.due("one that is not there, of " + n, x.errands(0, 1 << n, -1), -2);
            Bench.due("and all that are, of " + n, x.errands(0, (2 << n) - 1, -1), -2);
            Bench.due("set -1 of " + n, x.errands(0, -1, -1), -2);
            Bench.due("set MIN of " + n, x.errands(0, MIN, 0), -2);
            Bench.due("set MAX of " + n, x.errands(0, MAX, 0), -2);
            Bench.due("set 128 of " + n, x.errands(0, 128, 6), -2);
        }
    }

    private static void placesInOrders() {
        Bench.sentence("NONE: street, k (-1 .. 6)");
        EvenTally x = Bench.allLeads(Bench.streets(7));
        Bench.due("k -1", x.errands(0, 127, -1), 7);
        Bench.due("k 0", x.errands(0, 127, 0), 0);
        Bench.due("k 6", x.errands(0, 127, 6), 6);
        Bench.due("k 7", x.errands(0, 127, 7), -1);
        Bench.due("k -2", x.errands(0, 127, -2), -1);
        Bench.due("k MIN", x.errands(0, 127, MIN), -1);
        Bench.due("k MAX", x.errands(0, 127, MAX), -1);
        Bench.due("k 7 and a bad set", x.errands(0, 128, 7), -1);
        for (int no : new int[] {-1, 7, MIN, MAX}) {
            Bench.due("street " + no, x.errands(no, 127, -1), -1);
            Bench.due("street " + no + " and a bad set", x.errands(no, -1, -1), -1);
        }
    }

    // ---- stand

    private static void stands() {
        Bench.sentence("STAND: the STREET from which WAYS to all STREETS that PAY now are cheapest, together");
        EvenTally x = Bench.uneven(Bench.leads(Bench.streets(7), "56 65"), 0, 0, 0, 0, 0, 0, 3);
        Bench.due("the last one, alone", x.stand(), 6);
        Bench.uneven(x, 0, 0, 0, 0, 0, 2, 3);
        Bench.due("of two that are alike", x.stand(), 5);
        Bench.withTown(x, "step 4 s=5");
        Bench.due("of two, the one with the cheaper step", x.stand(), 6);
        Bench.withTown(x, "allow 3 s=6");
        Bench.due("one at allowed does not pay", x.stand(), 5);
        Bench.withTown(x, "allow 2 s=6");
        Bench.due("one beyond allowed pays", x.stand(), 5);
        Bench.withTown(x, "allow 2 s=6;allow 2 s=5");
        Bench.due("who pays, not how much", x.stand(), 6);
    }

    private static void standsOfSeveral() {
        Bench.sentence("(of several the least, also if none PAYS");
        Bench.due("one street that is even", Bench.streets(1).stand(), 0);
        Bench.due("seven that are even", Bench.streets(7).stand(), 0);
        EvenTally x = Bench.uneven(Bench.leads(Bench.streets(4), "13 23"), 0, 0, 0, 0);
        Bench.due("none pays", x.stand(), 0);
        x = Bench.uneven(Bench.allLeads(Bench.streets(4)), 0, 1, 1, 1);
        Bench.due("three that are alike", x.stand(), 1);
        x = Bench.uneven(Bench.allLeads(Bench.kinds(0, 5, 5)), 1, 1, 1);
        Bench.due("the cheaper ones", x.stand(), 1);
    }

    private static void standsByNone() {
        Bench.sentence("-5: from none there are all these)");
        Bench.due("no street", new EvenTally().stand(), -5);
        EvenTally x = Bench.uneven(Bench.streets(2), 1, 1);
        Bench.due("two, without leads", x.stand(), -5);
        Bench.leads(x, "10");
        Bench.due("two, with a lead", x.stand(), 1);
        x.lead(1, 0, false);
        Bench.uneven(x, 0, 1);
        Bench.due("one, without leads", x.stand(), 1);
    }

    // ---- how many ways

    private static void rowsOfNone() {
        Bench.sentence("WAYS of n (0 .. 20): how many rows of n OPEN LEADS there are");
        EvenTally x = Bench.allLeads(Bench.streets(7));
        for (int i = 0; i < 7; i++) {
            for (int j = 0; j < 7; j++) {
                Bench.due("of 0 from " + i + " to " + j, x.ways(i, j, 0), i == j ? 1 : 0);
                Bench.due("of 1 from " + i + " to " + j, x.ways(i, j, 1), i == j ? 0 : 1);
            }
        }
        EvenTally y = Bench.leads(Bench.kinds(0, 6), "01 10");
        Bench.due("not open there", y.ways(0, 1, 1), 0);
        Bench.due("not open back", y.ways(1, 0, 1), 0);
        Bench.due("of 0 in a shut one", y.ways(1, 1, 0), 1);
    }

    private static void rowsOf20() {
        Bench.sentence("WAYS of n (0 .. 20)");
        Bench.due("of 20, to another", Bench.allLeads(Bench.streets(7)).ways(0, 6, 20), 522308348580425L);
        Bench.due("of 20, back", Bench.allLeads(Bench.streets(7)).ways(6, 6, 20), 522308348580426L);
        Bench.due("of 19, to another", Bench.allLeads(Bench.streets(7)).ways(0, 6, 19), 87051391430071L);
        Bench.due("of 20, to and fro", Bench.leads(Bench.streets(2), "01 10").ways(0, 0, 20), 1);
        Bench.due("of 20, to and fro, to another", Bench.leads(Bench.streets(2), "01 10").ways(0, 1, 20), 0);
        Bench.due("of 20, where there is an end", Bench.leads(Bench.streets(3), "01 12").ways(0, 2, 20), 0);
    }

    private static void rowsBelow0And21() {
        Bench.sentence("WAYS. NO: streets, n.");
        EvenTally x = Bench.leads(Bench.streets(2), "01 10");
        Bench.due("n -1", x.ways(0, 0, -1), NO);
        Bench.due("n 21", x.ways(0, 0, 21), NO);
        Bench.due("n MIN", x.ways(0, 0, MIN), NO);
        Bench.due("n MAX", x.ways(0, 0, MAX), NO);
        for (int no : new int[] {-1, 2, 7, MIN, MAX}) {
            Bench.due("one " + no, x.ways(no, 0, 0), NO);
            Bench.due("other " + no, x.ways(0, no, 0), NO);
        }
    }

    // ---- one who strays

    private static void stray(EvenTally x, int one, int other, int n, long above, long below) {
        Bench.due("from " + one + " to " + other + " of " + n + ", above", x.stray(one, other, n, 0), above);
        Bench.due("from " + one + " to " + other + " of " + n + ", below", x.stray(one, other, n, 1), below);
    }

    private static void straysOfNone() {
        Bench.sentence("STRAY of n (0 .. 6)");
        EvenTally x = Bench.allLeads(Bench.streets(7));
        stray(x, 6, 6, 0, 1, 1);
        stray(x, 6, 5, 0, 0, 1);
        stray(x, 6, 5, 1, 1, 6);
        stray(x, 6, 6, 1, 0, 1);
    }

    private static void straysThatStay() {
        Bench.sentence("(stays, if there is none)");
        EvenTally x = Bench.streets(1);
        stray(x, 0, 0, 0, 1, 1);
        stray(x, 0, 0, 6, 1, 1);
        EvenTally y = Bench.leads(Bench.kinds(0, 6, 0, 3), "01 02 32 30 12");
        // The lead to the shut one and the one back are not open.
        stray(y, 0, 2, 1, 1, 1);
        stray(y, 0, 1, 1, 0, 1);
        stray(y, 3, 3, 6, 1, 1);
        stray(y, 2, 2, 6, 1, 1);
        stray(y, 1, 2, 6, 1, 1);
        y.day(1);
        stray(y, 0, 1, 1, 1, 2);
        stray(y, 0, 2, 1, 1, 2);
        stray(y, 0, 2, 2, 1, 1);
    }

    private static void straysInLowestTerms() {
        Bench.sentence("how likely one is in a STREET then: a fraction in lowest terms");
        for (int n = 1; n <= 6; n++) {
            StringBuilder pairs = new StringBuilder("01");
            for (int j = 2; j <= n; j++) {
                pairs.append(" 0").append(j);
            }
            EvenTally x = Bench.leads(Bench.streets(7), pairs.toString());
            stray(x, 0, n, 1, 1, n);
            stray(x, 0, n, 6, 1, n);
            stray(x, 0, 0, 1, 0, 1);
        }
        EvenTally x = Bench.leads(Bench.streets(4), "01 02 03 13 23");
        stray(x, 0, 3, 1, 1, 3);
        stray(x, 0, 3, 2, 1, 1);
        EvenTally y = Bench.leads(Bench.streets(5), "01 02 03 04 14 24");
        stray(y, 0, 4, 1, 1, 4);
        stray(y, 0, 4, 2, 3, 4);
        stray(y, 0, 3, 2, 1, 4);
        stray(y, 0, 2, 2, 0, 1);
    }

    private static void straysOf6() {
        Bench.sentence("STRAY of n (0 .. 6)");
        EvenTally x = Bench.allLeads(Bench.streets(7));
        stray(x, 0, 0, 6, 1111, 7776);
        stray(x, 0, 1, 6, 6665, 46656);
        EvenTally y = Bench.leads(Bench.streets(7), "01 02 03 04 05 10 12 13 14 15");
        // By fifths between two, of which each step leaves one fifth: (1/5)^6 in the first.
        stray(y, 0, 0, 6, 1, 15625);
        stray(y, 0, 1, 5, 1, 3125);
        EvenTally z = Bench.leads(Bench.streets(2), "01 10");
        stray(z, 0, 0, 6, 1, 1);
        stray(z, 0, 1, 6, 0, 1);
    }

    private static void straysBelow0And7() {
        Bench.sentence("STRAY; part 0 above, 1 below the line. NO: streets, n, part.");
        EvenTally x = Bench.leads(Bench.streets(2), "01 10");
        Bench.due("n -1", x.stray(0, 0, -1, 0), NO);
        Bench.due("n 7", x.stray(0, 0, 7, 0), NO);
        Bench.due("n MIN", x.stray(0, 0, MIN, 0), NO);
        Bench.due("n MAX", x.stray(0, 0, MAX, 0), NO);
        Bench.due("part -1", x.stray(0, 0, 0, -1), NO);
        Bench.due("part 2", x.stray(0, 0, 0, 2), NO);
        Bench.due("part MIN", x.stray(0, 0, 0, MIN), NO);
        Bench.due("part MAX", x.stray(0, 0, 0, MAX), NO);
        for (int no : new int[] {-1, 2, 7, MIN, MAX}) {
            Bench.due("one " + no, x.stray(no, 0, 0, 0), NO);
            Bench.due("other " + no, x.stray(0, no, 0, 1), NO);
        }
    }

    // ---- tallies told by hand

    private static void talliesFrom0To999() {
        Bench.sentence("IN and OUT (0 .. 999 each)");
        EvenTally x = new EvenTally();
        Bench.due("in 1000", x.tell(1000, 0), -2);
        Bench.due("in -2", x.tell(-2, 0), -2);
        Bench.due("in MIN", x.tell(MIN, 0), -2);
        Bench.due("in MAX", x.tell(MAX, 0), -2);
        Bench.due("out 1000", x.tell(0, 1000), -2);
        Bench.due("out -1", x.tell(0, -1), -2);
        Bench.due("out MIN", x.tell(0, MIN), -2);
        Bench.due("out MAX", x.tell(0, MAX), -2);
        Bench.due("none came to them", x.count(2) + x.wrong(0), 0);
        Bench.due("0 and 0", x.tell(0, 0), 1);
        Bench.due("999 and 0", x.tell(999, 0), 2);
        Bench.due("off by 999", x.wrong(0), 999);
        Bench.due("0 and 999", x.tell(0, 999), 3);
        Bench.due("off by 0", x.wrong(0), 0);
        Bench.due("999 and 999", x.tell(999, 999), 4);
        Bench.due("off by 0 again", x.wrong(0), 0);
    }

    private static void sevenTallies() {
        Bench.sentence("7 at most");
        EvenTally x = new EvenTally();
        for (int i = 1; i <= 7; i++) {
            Bench.due("tally " + i, x.tell(999, 0), i);
        }
        Bench.due("an eighth", x.tell(1, 0), -4);
        Bench.due("a bad eighth", x.tell(0, 1000), -2);
        Bench.due("seven", x.count(2), 7);
        Bench.due("off by the most", x.wrong(0), 6993);
        Bench.sentence("(in -1: none then, 0, whatever the other is)");
        Bench.due("none then, when it is full", x.tell(-1, 1000), 0);
        Bench.due("none", x.count(2), 0);
        Bench.due("off of none", x.wrong(0), 0);
        Bench.due("none of none", x.tell(-1, MIN), 0);
        for (int i = 1; i <= 7; i++) {
            Bench.due("anew tally " + i, x.tell(0, 999), i);
        }
        Bench.due("off by the least", x.wrong(0), -6993);
        Bench.due("the eighth again", x.tell(0, 0), -4);
        Bench.due("none then, with -1", x.tell(-1, -1), 0);
    }

    private static void talliesOfStreetsThatAreNot() {
        Bench.sentence("TALLIES told by hand, by STREETS (there or not)");
        EvenTally x = new EvenTally();
        for (int i = 0; i < 7; i++) {
            x.tell(i == 6 ? 5 : 3, 3);
        }
        Bench.due("off without streets", x.wrong(0), 2);
        Bench.due("wrong without streets, in", x.wrong(1), 127);
        Bench.due("wrong without streets, out", x.wrong(2), 127);
        Bench.due("of streets nothing is told", x.street(0, 0) + x.of(0, 2) + x.of(0, 3), 0);
        x.tally(0, 0, 9);
        Bench.due("nor of tallies by a street", x.wrong(0), 2);
    }

    private static void off() {
        Bench.sentence("OFF: all IN together less all OUT together");
        EvenTally x = new EvenTally();
        Bench.due("of none", x.wrong(0), 0);
        x.tell(4, 9);
        Bench.due("of one", x.wrong(0), -5);
        x.tell(7, 1);
        Bench.due("of two", x.wrong(0), 1);
        Bench.due("what -1", x.wrong(-1), Bench.FAR_NONE);
        Bench.due("what 3", x.wrong(3), Bench.FAR_NONE);
        Bench.due("what MIN", x.wrong(MIN), Bench.FAR_NONE);
        Bench.due("what MAX", x.wrong(MAX), Bench.FAR_NONE);
        Bench.sentence("if OFF is not 0");
        x.tell(0, 1);
        Bench.due("off is 0", x.wrong(0), 0);
        Bench.due("then none of IN", x.wrong(1), 0);
        Bench.due("then none of OUT", x.wrong(2), 0);
    }

    /** Tallies, each of an IN and an OUT, told anew. */
    private static EvenTally told(int... numbers) {
        EvenTally x = new EvenTally();
        for (int i = 0; i + 1 < numbers.length; i += 2) {
            x.tell(numbers[i], numbers[i + 1]);
        }
        return x;
    }

    private static void wrongIn() {
        Bench.sentence("WRONG: the STREETS (bits) of which IN alone could be told wrongly: if OFF is not 0, and IN less OFF is 0 .. 999");
        EvenTally x = told(10, 0, 9, 0, 11, 0, 0, 20);
        Bench.due("off 10", x.wrong(0), 10);
        Bench.due("10 less 10 is 0, 9 less 10 is not", x.wrong(1), 5);
        x = told(989, 999, 990, 0, 0, 990, 988, 988, 0, 0);
        Bench.due("off -10", x.wrong(0), -10);
        Bench.due("989 and 10 is 999, 990 and 10 is not", x.wrong(1), 29);
        x = told(999, 0);
        Bench.due("999 less 999", x.wrong(1), 1);
        x = told(0, 999);
        Bench.due("0 and 999", x.wrong(1), 1);
        x = told(0, 999, 0, 1);
        Bench.due("0 and 1000", x.wrong(1), 0);
        x = told(999, 0, 1, 0);
        Bench.due("999 less 1000", x.wrong(1), 0);
        x = told(1, 0, 0, 0, 0, 0, 0, 0, 0, 0, 0, 0, 1, 1);
        Bench.due("the first and the last", x.wrong(1), 65);
    }

    private static void wrongOut() {
        Bench.sentence("of which OUT alone could: OUT and OFF, together");
        EvenTally x = told(0, 10, 0, 9, 0, 11, 20, 0);
        Bench.due("off -10", x.wrong(0), -10);
        Bench.due("10 less 10 is 0, 9 less 10 is not", x.wrong(2), 5);
        x = told(999, 989, 0, 990, 990, 0, 988, 988, 0, 0);
        Bench.due("off 10", x.wrong(0), 10);
        Bench.due("989 and 10 is 999, 990 and 10 is not", x.wrong(2), 29);
        Bench.due("of IN 0 less 10 is not", x.wrong(1), 13);
        x = told(0, 999);
        Bench.due("999 less 999", x.wrong(2), 1);
        x = told(999, 0);
        Bench.due("0 and 999", x.wrong(2), 1);
        x = told(999, 0, 1, 0);
        Bench.due("0 and 1000", x.wrong(2), 0);
        x = told(0, 999, 0, 1);
        Bench.due("999 less 1000", x.wrong(2), 0);
        x = told(0, 1, 0, 0, 0, 0, 0, 0, 0, 0, 0, 0, 1, 1);
        Bench.due("the first and the last", x.wrong(2), 65);
    }
}

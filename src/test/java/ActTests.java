/** The boundaries of acts, THE TRACE and THE IMAGE, a test a sentence. */
public final class ActTests {
    private static final int MAX = Bench.MAX, MIN = Bench.MIN;
    private static final int COUNTS = 0, PAYS = 1, TELLS = 2;

    public static void main(String[] args) {
        bodiesOfAStreet();
        bodiesOfASunday();
        bodiesOfAHelpedOne();
        bodiesOfAOneWayOne();
        bodiesOfAFreeOne();
        bodiesOfAWideOne();
        bodiesOfAShutOne();
        iIsTheNumber();
        wraps();
        noSuchStreetOrAct();
        theTraceIsOfTheLatest();
        theFirst20();
        noImage();
        theImageOfNothing();
        theImageIsTheNewest();
        allIsAsTheImage();
        theImageOfWhatIsFull();
        theImageIsNotInItself();
        theTraceIsNotInIt();
        counts();
        Bench.end("ActTests");
    }

    /** The last of three streets is of this kind, with this v: its number is 2. */
    private static EvenTally ofKind(int kind, int v) {
        EvenTally x = Bench.streets(2);
        x.street(kind, v);
        return x;
    }

    private static void acts(EvenTally x, int act, int to, int due, int... bodies) {
        String told = "act " + act + " with " + to;
        Bench.due(told, x.act(2, act, to), due);
        Bench.due(told + ", bodies", x.count(4), bodies.length);
        for (int i = 0; i < bodies.length; i++) {
            Bench.due(told + ", body " + i, x.trace(i), bodies[i]);
        }
        Bench.due(told + ", no more bodies", x.trace(bodies.length), -1);
        Bench.due(told + ", none ahead of the first", x.trace(-1), -1);
    }

    // ---- bodies

    private static void bodiesOfAStreet() {
        Bench.sentence("STREET: 1 counts: x + i. 2 pays: counts(x) - v. 3 tells: pays(x) * 2.");
        EvenTally x = ofKind(0, 9);
        acts(x, COUNTS, 10, 12, 1);
        acts(x, PAYS, 10, 3, 2, 1);
        acts(x, TELLS, 10, 6, 3, 2, 1);
        acts(x, COUNTS, -2, 0, 1);
        acts(x, PAYS, 0, -7, 2, 1);
        acts(x, TELLS, 0, -14, 3, 2, 1);
        acts(ofKind(0, 0), PAYS, 10, 12, 2, 1);
    }

    private static void bodiesOfASunday() {
        Bench.sentence("SUNDAY: 11 counts: super.counts(x * 3).");
        EvenTally x = ofKind(1, 9);
        acts(x, COUNTS, 10, 32, 11, 1);
        acts(x, PAYS, 10, 23, 2, 11, 1);
        acts(x, TELLS, 10, 46, 3, 2, 11, 1);
        acts(x, COUNTS, -1, -1, 11, 1);
    }

    private static void bodiesOfAHelpedOne() {
        Bench.sentence("HELPED: 21 pays: -super.pays(x).");
        EvenTally x = ofKind(2, 9);
        acts(x, COUNTS, 10, 12, 1);
        acts(x, PAYS, 10, -3, 21, 2, 1);
        acts(x, TELLS, 10, -6, 3, 21, 2, 1);
        acts(x, PAYS, 7, 0, 21, 2, 1);
    }

    private static void bodiesOfAOneWayOne() {
        Bench.sentence("ONEWAY: 31 tells: super.tells(x) ^ 7.");
        EvenTally x = ofKind(3, 9);
        acts(x, COUNTS, 10, 12, 1);
        acts(x, PAYS, 10, 3, 2, 1);
        acts(x, TELLS, 10, 1, 31, 3, 2, 1);
        acts(x, TELLS, 7, 7, 31, 3, 2, 1);
        acts(x, TELLS, 6, -2 ^ 7, 31, 3, 2, 1);
    }

    private static void bodiesOfAFreeOne() {
        Bench.sentence("FREE: 41 tells: super.tells(x - 1) + counts(2).");
        EvenTally x = ofKind(4, 9);
        acts(x, COUNTS, 10, 32, 11, 1);
        acts(x, PAYS, 10, 23, 2, 11, 1);
        acts(x, TELLS, 10, 2 * (27 + 2 - 9) + 8, 41, 3, 2, 11, 1, 11, 1);
    }

    private static void bodiesOfAWideOne() {
        Bench.sentence("WIDE: 51 counts: super.counts(x) ^ i.");
        EvenTally x = ofKind(5, 9);
        acts(x, COUNTS, 9, 11 ^ 2, 51, 1);
        acts(x, PAYS, 9, -((11 ^ 2) - 9), 21, 2, 51, 1);
        acts(x, TELLS, 9, -2 * ((11 ^ 2) - 9), 3, 21, 2, 51, 1);
    }

    private static void bodiesOfAShutOne() {
        Bench.sentence("SHUT: 61 pays: super.pays(x) + v.");
        EvenTally x = ofKind(6, 9);
        acts(x, COUNTS, 10, 12, 1);
        acts(x, PAYS, 10, 12, 61, 2, 1);
        acts(x, TELLS, 10, 24 ^ 7, 31, 3, 61, 2, 1);
    }

    private static void iIsTheNumber() {
        Bench.sentence("i its number");
        EvenTally x = new EvenTally();
        for (int i = 0; i < 7; i++) {
            x.street(5, 9 - i);
        }
        for (int i = 0; i < 7; i++) {
            Bench.due("counts of " + i, x.act(i, COUNTS, 1), 1 + i ^ i);
            Bench.due("pays of " + i, x.act(i, PAYS, 1), 9 - i - (1 + i ^ i));
        }
    }

    private static void wraps() {
        Bench.sentence("ACTS of a STREET with x (ints, wrapping)");
        acts(ofKind(0, 9), COUNTS, MAX, MIN + 1, 1);
        acts(ofKind(0, 9), COUNTS, MAX - 2, MAX, 1);
        acts(ofKind(0, 9), COUNTS, MIN, MIN + 2, 1);
        acts(ofKind(0, 9), PAYS, MIN, MAX - 6, 2, 1);
        acts(ofKind(0, 9), PAYS, MIN + 7, MIN, 2, 1);
        acts(ofKind(0, 9), TELLS, 1073741824 + 7, MIN, 3, 2, 1);
        acts(ofKind(0, 9), TELLS, MAX, 2 * (MIN + 1 - 9), 3, 2, 1);
        acts(ofKind(1, 0), COUNTS, 715827882, MIN, 11, 1);
        acts(ofKind(1, 0), COUNTS, 715827881, MAX - 2, 11, 1);
        acts(ofKind(1, 0), COUNTS, MIN, MIN + 2, 11, 1);
        acts(ofKind(1, 0), COUNTS, MAX, MAX, 11, 1);
        acts(ofKind(2, 2), PAYS, MIN, MIN, 21, 2, 1);
        acts(ofKind(2, 2), PAYS, MIN + 1, MAX, 21, 2, 1);
        acts(ofKind(3, 2), TELLS, MIN, 7, 31, 3, 2, 1);
        acts(ofKind(4, 0), TELLS, MIN, 2 * (MAX * 3 + 2) + 8, 41, 3, 2, 11, 1, 11, 1);
        acts(ofKind(5, 0), COUNTS, MAX, MIN + 3, 51, 1);
        acts(ofKind(5, 0), PAYS, MAX - 1, -(MIN + 2), 21, 2, 51, 1);
        acts(ofKind(6, 9), PAYS, MAX, MIN + 1, 61, 2, 1);
    }

    private static void noSuchStreetOrAct() {
        Bench.sentence("0, and no TRACE then: no such STREET, act.");
        int[][] none = {{-1, 0}, {3, 0}, {7, 0}, {MIN, 0}, {MAX, 0}, {2, -1}, {2, 3}, {2, MIN}, {2, MAX}, {3, 3}, {-1, -1}};
        for (int[] call : none) {
            String told = "act(" + call[0] + ", " + call[1] + ")";
            EvenTally x = ofKind(4, 5);
            x.act(2, TELLS, 1);
            Bench.due("bodies ahead of " + told, x.count(4), 7);
            Bench.due(told, x.act(call[0], call[1], 77), 0);
            Bench.due("bodies behind " + told, x.count(4), 0);
            Bench.due("no body behind " + told, x.trace(0), -1);
            Bench.due("nor another one behind " + told, x.trace(6), -1);
            EvenTally y = ofKind(4, 5);
            x.act(2, TELLS, 1);
            y.act(2, TELLS, 1);
            Bench.same(told, x, y);
        }
        EvenTally x = new EvenTally();
        Bench.due("of no street at all", x.act(0, 0, 1), 0);
    }

    // ---- the trace

    private static void theTraceIsOfTheLatest() {
        Bench.sentence("THE TRACE: the numbers of the bodies that ran in the latest act(), as they began");
        EvenTally x = ofKind(4, 5);
        Bench.due("ahead of any act", x.trace(0), -1);
        Bench.due("ahead of any act, how many", x.count(4), 0);
        acts(x, TELLS, 1, 2 * (0 + 2 - 5) + 8, 41, 3, 2, 11, 1, 11, 1);
        acts(x, COUNTS, 1, 5, 11, 1);
        for (int i = 2; i <= 20; i++) {
            Bench.due("of a longer one ahead, " + i, x.trace(i), -1);
        }
        // No other call is an act.
        x.image();
        x.of(2, 8);
        x.told(1);
        x.town();
        x.as(2, 0);
        Bench.due("behind other calls", x.trace(0), 11);
        Bench.due("behind other calls, how many", x.count(4), 2);
    }

    private static void theFirst20() {
        Bench.sentence("the first 20 are kept");
        // The longest act has 7 bodies, so that all of them are kept.
        EvenTally x = ofKind(4, 5);
        x.act(2, TELLS, 1);
        Bench.due("all", x.count(4), 7);
        Bench.due("the last", x.trace(6), 1);
        Bench.sentence("THE TRACE's i-th body. NONE.");
        for (int i : new int[] {-1, 7, 8, 19, 20, 21, MIN, MAX}) {
            Bench.due("body " + i, x.trace(i), -1);
        }
    }

    // ---- the image

    private static void noImage() {
        Bench.sentence("STATE: there is none.");
        Bench.due("of a new one", new EvenTally().undo(), -3);
        Bench.still("of a busy one", ActTests::busy, x -> x.undo(), -3);
        Bench.still("of a busy one, twice", ActTests::busy, x -> x.undo() + x.undo(), -6);
    }

    private static EvenTally busy() {
        EvenTally x = Bench.leads(Bench.kinds(0, 6, 4), "01 12 20");
        Bench.uneven(x, 5, -7, 3);
        x.day(13);
        Bench.town(x, "step 2 s<3;allow 1 u>4");
        Bench.feed(x, "fine 7 s<9");
        x.tell(5, 4);
        x.act(2, 2, 5);
        return x;
    }

    private static void theImageOfNothing() {
        Bench.sentence("THE IMAGE is taken: how many STREETS there are.");
        EvenTally x = new EvenTally();
        Bench.due("of none", x.image(), 0);
        x.street(6, 9);
        Bench.leads(Bench.uneven(x, 9), "01");
        Bench.town(x, "fine 9 s=0");
        Bench.feed(x, "fin");
        x.day(99);
        x.tell(1, 2);
        Bench.due("how many there were", x.undo(), 0);
        x.act(0, 0, 0);
        Bench.same("as a new one", x, imaged(new EvenTally()));
    }

    private static EvenTally imaged(EvenTally x) {
        x.image();
        return x;
    }

    private static void theImageIsTheNewest() {
        Bench.sentence("All is as THE IMAGE: how many STREETS.");
        EvenTally x = new EvenTally();
        for (int i = 0; i <= 7; i++) {
            Bench.due("an image of " + i, x.image(), i);
            x.street(0, 0);
            Bench.due("back to " + i, x.undo(), i);
            Bench.due("back to " + i + " again", x.undo(), i);
            Bench.due("streets", x.count(0), i);
            Bench.due("the next one's number", x.street(0, 0), i < 7 ? i : -4);
        }
        Bench.stillNow("an image changes nothing else", ActTests::busy, y -> y.image(), 3);
        Bench.stillNow("nor does an undo at once", ActTests::busy, y -> y.image() + y.undo(), 6);
    }

    private static void allIsAsTheImage() {
        Bench.sentence("THE IMAGE: all that there is (but THE IMAGE and THE TRACE).");
        for (int part = 0; part <= 13; part++) {
            EvenTally x = imaged(busy());
            change(x, part);
            Bench.due("part " + part + " is another one", Bench.all(x).equals(Bench.all(busy())) ? 1 : 0, 0);
            x.undo();
            Bench.same("part " + part, x, imaged(busy()));
        }
    }

    private static void change(EvenTally x, int part) {
        switch (part) {
            case 0: x.street(5, 3); break;
            case 1: x.day(98); break;
            case 2: x.lead(0, 2, true); break;
            case 3: x.lead(2, 0, false); break;
            case 4: x.tally(1, 0, 9999); break;
            case 5: x.tally(2, 1, 1); break;
            case 6: x.feed('|'); break;
            case 7: x.town(); break;
            case 8: Bench.feed(x, "x"); x.town(); break;
            case 9: x.tell(0, 0); break;
            case 10: x.tell(-1, 0); break;
            case 11: x.tell(-1, 0); x.tell(4, 5); break;
            case 12: x.town(); Bench.feed(x, "step 3 s<1"); break;
            default: x.go(1, 2, 9);
        }
    }

    private static void theImageOfWhatIsFull() {
        Bench.sentence("All is as THE IMAGE");
        EvenTally x = Bench.allLeads(Bench.streets(7));
        for (int i = 0; i < 5; i++) {
            Bench.town(x, "fine " + i + " s<7");
        }
        for (int i = 0; i < 100; i++) {
            x.feed('s');
        }
        for (int i = 0; i < 7; i++) {
            x.tell(i, 0);
            x.tally(i, 0, 9999);
        }
        x.day(99);
        Bench.due("an image of all that is full", x.image(), 7);
        x.tell(-1, 0);
        x.day(0);
        x.lead(0, 1, false);
        x.tally(0, 0, 0);
        Bench.due("back to all that is full", x.undo(), 7);
        Bench.due("streets", x.street(0, 0), -4);
        Bench.due("the tape", x.feed('s'), -4);
        Bench.due("towns", x.town(), -4);
        Bench.due("the tallies", x.tell(0, 0), -4);
        Bench.due("off", x.wrong(0), 21);
        Bench.due("the day", x.told(0), 99);
        Bench.due("the lead", x.of(0, 9), 126);
        Bench.due("IN", x.of(0, 2), 9999);
        Bench.due("the fifth town", x.of(0, 6), 14);
    }

    private static void theImageIsNotInItself() {
        Bench.sentence("(but THE IMAGE");
        EvenTally x = imaged(Bench.streets(1));
        x.street(0, 0);
        x.image();
        x.street(0, 0);
        Bench.due("back to the newer one", x.undo(), 2);
        Bench.due("and not to the older one", x.undo(), 2);
    }

    private static void theTraceIsNotInIt() {
        Bench.sentence("and THE TRACE)");
        EvenTally x = ofKind(1, 5);
        x.act(2, PAYS, 1);
        x.image();
        x.act(2, COUNTS, 1);
        x.undo();
        Bench.due("the latest one's first", x.trace(0), 11);
        Bench.due("the latest one's last", x.trace(1), 1);
        Bench.due("the latest one's end", x.trace(2), -1);
        Bench.due("how many", x.count(4), 2);
        x.act(9, 9, 9);
        x.undo();
        Bench.due("none stays none", x.count(4), 0);
        Bench.due("none stays none, first", x.trace(0), -1);
    }

    private static void counts() {
        Bench.sentence("0 STREETS, 1 TOWNS, 2 TALLIES, 3 signs of THE TAPE, 4 bodies that ran in the latest act()");
        EvenTally x = busy();
        int[] due = {3, 1, 1, 10, 7};
        for (int what = 0; what <= 4; what++) {
            Bench.due("what " + what, x.count(what), due[what]);
            Bench.due("of a new one, what " + what, new EvenTally().count(what), 0);
        }
        for (int what : new int[] {-1, 5, MIN, MAX}) {
            Bench.due("what " + what, x.count(what), -1);
        }
    }
}

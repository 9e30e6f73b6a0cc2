import java.util.function.Supplier;
import java.util.function.ToLongFunction;

/** Chapter 3 of the Terms, a test a call: of several refusals the first one is told, and they change nothing. */
public final class RefusalTests {
    private static final int MAX = Bench.MAX, MIN = Bench.MIN;
    private static final int NONE = -1, BAD = -2, STATE = -3, FULL = -4;
    private static final long NO = Long.MIN_VALUE;
    private static final int FAR_NONE = Bench.FAR_NONE, FAR_BAD = Bench.FAR_BAD, FAR_STATE = Bench.FAR_STATE;
    /** There are three streets in busy() and seven in full(). */
    private static final int[] NO_STREET = {-1, 7, 8, MIN, MAX};

    public static void main(String[] args) {
        Bench.sentence("REFUSALS, of several the first one told: NONE there is no such STREET, KIND, what, part, k, i; "
            + "BAD a number is not as told; STATE as told; FULL. They change nothing.");
        constants();
        feed();
        town();
        day();
        street();
        lead();
        of();
        told();
        go();
        goUpTo9999();
        tally();
        cost();
        gate();
        fresh();
        need();
        way();
        errands();
        ways();
        stray();
        tell();
        wrong();
        trace();
        as();
        undo();
        count();
        Bench.end("RefusalTests");
    }

    // ---- three objects, on which each call is tried that is refused

    private static EvenTally empty() {
        return new EvenTally();
    }

    private static EvenTally busy() {
        EvenTally x = new EvenTally();
        x.street(2, 4);
        x.street(6, 3);
        x.street(1, 9);
        Bench.leads(x, "01 12 20");
        Bench.uneven(x, 5, -7, 30);
        x.day(13);
        Bench.town(x, "step 2 s<3;allow 1 u>4");
        x.tell(5, 4);
        x.image();
        Bench.feed(x, "fine 7 s<9");
        x.lead(0, 2, true);
        x.tell(2, 9);
        x.act(1, 2, 5);
        return x;
    }

    private static EvenTally full() {
        EvenTally x = new EvenTally();
        for (int i = 0; i < 7; i++) {
            x.street(i, i);
            x.tell(999, i);
        }
        Bench.leads(x, "01 12 60");
        x.tally(0, 1, 9999);
        x.tally(2, 0, 9999);
        for (int i = 0; i < 5; i++) {
            Bench.town(x, "step 1 s=" + i);
        }
        for (int i = 0; i < 100; i++) {
            x.feed("step 1 s=1".charAt(i % 10));
        }
        x.day(1);
        return x;
    }

    private static void on(String told, Supplier<EvenTally> made, ToLongFunction<EvenTally> call, long want) {
        Bench.still(told, made, call, want);
    }

    /** Refused, whatever there is. */
    private static void always(String told, ToLongFunction<EvenTally> call, long want) {
        on(told + " on an empty one", RefusalTests::empty, call, want);
        on(told + " on a busy one", RefusalTests::busy, call, want);
        on(told + " on a full one", RefusalTests::full, call, want);
    }

    private static void constants() {
        Bench.due("NONE", EvenTally.NONE, NONE);
        Bench.due("BAD", EvenTally.BAD, BAD);
        Bench.due("STATE", EvenTally.STATE, STATE);
        Bench.due("FULL", EvenTally.FULL, FULL);
        Bench.due("NO", EvenTally.NO, NO);
    }

    // ---- towns, streets

    private static void feed() {
        for (int sign : new int[] {-1, 128, MIN, MAX}) {
            always("feed " + sign, x -> x.feed(sign), BAD);
        }
        for (int sign : new int[] {0, 's', 127}) {
            on("feed " + sign + " to a full tape", RefusalTests::full, x -> x.feed(sign), FULL);
        }
    }

    private static void town() {
        on("a sixth town", RefusalTests::full, x -> x.town(), FULL);
        // A fault changes nothing but the tape, which is empty then.
        EvenTally x = busy(), y = busy();
        Bench.feed(x, "|");
        Bench.due("a fault", x.town(), -21);
        Bench.due("the tape", x.count(3), 0);
        Bench.due("one sign less is a town", y.town(), 1);
        EvenTally z = busy();
        z.undo();
        Bench.feed(z, "x");
        Bench.due("the fault of the first", z.town(), -10);
        EvenTally image = busy();
        image.undo();
        Bench.due("all is as it was", Bench.all(z).equals(Bench.all(image)) ? 1 : 0, 1);
        Bench.same("behind a fault", z, image);
    }

    private static void day() {
        for (int n : new int[] {-1, 100, MIN, MAX}) {
            always("day " + n, x -> x.day(n), BAD);
        }
    }

    private static void street() {
        for (int kind : new int[] {-1, 7, MIN, MAX}) {
            for (int v : new int[] {0, 9, -1, 10, MIN, MAX}) {
                always("street " + kind + " " + v, x -> x.street(kind, v), NONE);
            }
        }
        for (int v : new int[] {-1, 10, MIN, MAX}) {
            always("street 0 " + v, x -> x.street(0, v), BAD);
            always("street 6 " + v, x -> x.street(6, v), BAD);
        }
        on("an eighth street", RefusalTests::full, x -> x.street(0, 0), FULL);
        on("an eighth street, of the last kind", RefusalTests::full, x -> x.street(6, 9), FULL);
    }

    private static void lead() {
        for (int no : NO_STREET) {
            for (boolean is : new boolean[] {true, false}) {
                always("lead from " + no, x -> x.lead(no, 0, is), NONE);
                always("lead to " + no, x -> x.lead(0, no, is), NONE);
                always("lead from and to " + no, x -> x.lead(no, no, is), NONE);
            }
        }
        on("lead to 3 of three", RefusalTests::busy, x -> x.lead(0, 3, true), NONE);
        on("lead from 3 of three", RefusalTests::busy, x -> x.lead(3, 0, true), NONE);
        on("lead from 0 of none", RefusalTests::empty, x -> x.lead(0, 0, true), NONE);
        for (int s = 0; s < 7; s++) {
            int one = s;
            on("lead from and to " + s, RefusalTests::full, x -> x.lead(one, one, true), BAD);
            on("no lead from and to " + s, RefusalTests::full, x -> x.lead(one, one, false), BAD);
        }
    }

    private static void of() {
        for (int no : NO_STREET) {
            for (int what : new int[] {0, 10, 11, -1}) {
                always("of " + no + " " + what, x -> x.of(no, what), FAR_NONE);
            }
        }
        on("of 3 of three", RefusalTests::busy, x -> x.of(3, 0), FAR_NONE);
        for (int what : new int[] {-1, 11, MIN, MAX}) {
            on("of 0 " + what, RefusalTests::busy, x -> x.of(0, what), FAR_NONE);
        }
    }

    private static void told() {
        for (int what : new int[] {-1, 4, MIN, MAX}) {
            always("told " + what, x -> x.told(what), FAR_NONE);
        }
    }

    // ---- goings

    private static void go() {
        for (int no : NO_STREET) {
            for (int n : new int[] {1, 9, 0, 10}) {
                always("go from " + no + " " + n, x -> x.go(no, 0, n), FAR_NONE);
                always("go to " + no + " " + n, x -> x.go(0, no, n), FAR_NONE);
                always("go from and to " + no + " " + n, x -> x.go(no, no, n), FAR_NONE);
            }
        }
        on("go to 3 of three", RefusalTests::busy, x -> x.go(0, 3, 1), FAR_NONE);
        for (int n : new int[] {0, 10, -1, MIN, MAX}) {
            on("go by a lead " + n, RefusalTests::busy, x -> x.go(0, 1, n), FAR_BAD);
            on("go by none " + n, RefusalTests::busy, x -> x.go(1, 0, n), FAR_BAD);
            on("go in one street " + n, RefusalTests::busy, x -> x.go(1, 1, n), FAR_BAD);
            on("go beyond 9999 " + n, RefusalTests::full, x -> x.go(0, 1, n), FAR_BAD);
        }
        for (int n : new int[] {1, 9}) {
            on("go by no lead " + n, RefusalTests::busy, x -> x.go(2, 1, n), FAR_STATE);
            on("go in one street " + n, RefusalTests::busy, x -> x.go(0, 0, n), FAR_STATE);
            on("go by a lead that is one way " + n, RefusalTests::full, x -> x.go(6, 0, n), FAR_STATE);
        }
        on("go to a shut street", () -> Bench.onDay(busy(), 10), x -> x.go(0, 1, 1), FAR_STATE);
    }

    private static void goUpTo9999() {
        for (int n : new int[] {1, 9}) {
            on("OUT above 9999 by " + n, RefusalTests::full, x -> x.go(0, 1, n), FAR_STATE);
            on("IN above 9999 by " + n, RefusalTests::full, x -> x.go(1, 2, n), FAR_STATE);
        }
    }

    private static void tally() {
        for (int no : NO_STREET) {
            for (int n : new int[] {0, 9999, -1, 10000}) {
                always("tally of " + no + " " + n, x -> x.tally(no, 0, n), NONE);
                always("tally of " + no + ", what 2, " + n, x -> x.tally(no, 2, n), NONE);
            }
        }
        on("tally of 3 of three", RefusalTests::busy, x -> x.tally(3, 0, 1), NONE);
        for (int what : new int[] {-1, 2, MIN, MAX}) {
            for (int n : new int[] {1, -1, 10000}) {
                on("tally, what " + what + ", " + n, RefusalTests::busy, x -> x.tally(0, what, n), NONE);
            }
        }
        for (int n : new int[] {-1, 10000, MIN, MAX}) {
            on("IN becomes " + n, RefusalTests::busy, x -> x.tally(2, 0, n), BAD);
            on("OUT becomes " + n, RefusalTests::busy, x -> x.tally(1, 1, n), BAD);
        }
    }

    // ---- cheapest

    private static void cost() {
        for (int what : new int[] {-1, 2, MIN, MAX}) {
            always("cost " + what, x -> x.cost(what), NONE);
        }
    }

    private static void gate() {
        for (int no : NO_STREET) {
            always("gate of " + no, x -> x.gate(no), NONE);
        }
        on("gate of 3 of three", RefusalTests::busy, x -> x.gate(3), NONE);
        on("gate of 0 of none", RefusalTests::empty, x -> x.gate(0), NONE);
    }

    private static void fresh() {
        for (int no : NO_STREET) {
            always("fresh from " + no, x -> x.fresh(no, 0), NONE);
            always("fresh to " + no, x -> x.fresh(0, no), NONE);
            always("fresh from and to " + no, x -> x.fresh(no, no), NONE);
        }
        on("fresh to 3 of three", RefusalTests::busy, x -> x.fresh(0, 3), NONE);
        on("fresh from 3 of three", RefusalTests::busy, x -> x.fresh(3, 0), NONE);
        on("fresh from and to 2", RefusalTests::busy, x -> x.fresh(2, 2), BAD);
        on("fresh from and to 6", RefusalTests::full, x -> x.fresh(6, 6), BAD);
    }

    private static void need() {
        for (int no : NO_STREET) {
            always("need from " + no, x -> x.need(no, 0), NONE);
            always("need to " + no, x -> x.need(0, no), NONE);
            always("need from and to " + no, x -> x.need(no, no), NONE);
        }
        on("need to 3 of three", RefusalTests::busy, x -> x.need(0, 3), NONE);
        on("need from 3 of three", RefusalTests::busy, x -> x.need(3, 0), NONE);
        on("need from and to 2", RefusalTests::busy, x -> x.need(2, 2), BAD);
        on("need from and to 6", RefusalTests::full, x -> x.need(6, 6), BAD);
    }

    // ---- ways, errands

    private static void way() {
        for (int no : NO_STREET) {
            always("way from " + no, x -> x.way(no, 0), NONE);
            always("way to " + no, x -> x.way(0, no), NONE);
            always("way from and to " + no, x -> x.way(no, no), NONE);
        }
        on("way to 3 of three", RefusalTests::busy, x -> x.way(0, 3), NONE);
        on("way from 3 of three", RefusalTests::busy, x -> x.way(3, 0), NONE);
    }

    private static void errands() {
        for (int no : NO_STREET) {
            for (int set : new int[] {0, -1, 128}) {
                always("errands from " + no + " to " + set, x -> x.errands(no, set, 0), NONE);
                always("errands from " + no + " to " + set + ", k 7", x -> x.errands(no, set, 7), NONE);
            }
        }
        on("errands from 3 of three", RefusalTests::busy, x -> x.errands(3, 0, -1), NONE);
        for (int k : new int[] {-2, 7, MIN, MAX}) {
            on("errands, k " + k, RefusalTests::busy, x -> x.errands(0, 7, k), NONE);
            on("errands to a bad set, k " + k, RefusalTests::busy, x -> x.errands(0, 8, k), NONE);
        }
        for (int set : new int[] {8, 15, -1, 128, MIN, MAX}) {
            on("errands to " + set, RefusalTests::busy, x -> x.errands(0, set, -1), BAD);
            on("errands to " + set + ", k 6", RefusalTests::busy, x -> x.errands(2, set, 6), BAD);
        }
        on("errands to 128 of seven", RefusalTests::full, x -> x.errands(0, 128, -1), BAD);
        on("errands to -128 of seven", RefusalTests::full, x -> x.errands(0, -128, -1), BAD);
    }

    private static void ways() {
        for (int no : NO_STREET) {
            always("ways from " + no, x -> x.ways(no, 0, 0), NO);
            always("ways to " + no, x -> x.ways(0, no, 0), NO);
            always("ways from and to " + no, x -> x.ways(no, no, 21), NO);
        }
        on("ways to 3 of three", RefusalTests::busy, x -> x.ways(0, 3, 1), NO);
        for (int n : new int[] {-1, 21, MIN, MAX}) {
            on("ways of " + n, RefusalTests::busy, x -> x.ways(0, 0, n), NO);
        }
    }

    private static void stray() {
        for (int no : NO_STREET) {
            always("stray from " + no, x -> x.stray(no, 0, 0, 0), NO);
            always("stray to " + no, x -> x.stray(0, no, 0, 1), NO);
            always("stray from and to " + no, x -> x.stray(no, no, 7, 2), NO);
        }
        on("stray to 3 of three", RefusalTests::busy, x -> x.stray(0, 3, 1, 0), NO);
        for (int n : new int[] {-1, 7, MIN, MAX}) {
            on("stray of " + n, RefusalTests::busy, x -> x.stray(0, 0, n, 0), NO);
        }
        for (int part : new int[] {-1, 2, MIN, MAX}) {
            on("stray, part " + part, RefusalTests::busy, x -> x.stray(0, 0, 1, part), NO);
        }
    }

    // ---- tallies told by hand

    private static void tell() {
        for (int n : new int[] {1000, -2, MIN, MAX}) {
            always("tell IN " + n, x -> x.tell(n, 0), BAD);
            always("tell IN and OUT " + n, x -> x.tell(n, n), BAD);
        }
        for (int n : new int[] {1000, -1, MIN, MAX}) {
            always("tell OUT " + n, x -> x.tell(0, n), BAD);
            always("tell 999 and OUT " + n, x -> x.tell(999, n), BAD);
        }
        on("tell an eighth", RefusalTests::full, x -> x.tell(0, 0), FULL);
        on("tell an eighth of 999", RefusalTests::full, x -> x.tell(999, 999), FULL);
    }

    private static void wrong() {
        for (int what : new int[] {-1, 3, MIN, MAX}) {
            always("wrong " + what, x -> x.wrong(what), FAR_NONE);
        }
    }

    // ---- acts, the image

    private static void trace() {
        for (int i : new int[] {-1, 20, MIN, MAX}) {
            always("trace " + i, x -> x.trace(i), NONE);
        }
        on("trace 0 of none", RefusalTests::empty, x -> x.trace(0), NONE);
        on("trace 5 of five", RefusalTests::busy, x -> x.trace(5), NONE);
        Bench.due("trace 4 of five", busy().trace(4), 1);
    }

    private static void as() {
        for (int no : NO_STREET) {
            always(no + " as 0", x -> x.as(no, 0), NONE);
            always(no + " as 7", x -> x.as(no, 7), NONE);
        }
        on("3 of three as 0", RefusalTests::busy, x -> x.as(3, 0), NONE);
        for (int k : new int[] {-1, 7, MIN, MAX}) {
            on("0 as " + k, RefusalTests::busy, x -> x.as(0, k), NONE);
        }
    }

    private static void undo() {
        on("undo on an empty one", RefusalTests::empty, x -> x.undo(), STATE);
        on("undo on a full one", RefusalTests::full, x -> x.undo(), STATE);
    }

    private static void count() {
        for (int what : new int[] {-1, 5, MIN, MAX}) {
            always("count " + what, x -> x.count(what), NONE);
        }
    }
}

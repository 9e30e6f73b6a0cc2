/**
 * The boundaries of THE TAPE, of towns and of FAULTs, a test a sentence. A text here is a tape; the sign
 * ^ in it stands ahead of its fault and is not fed itself.
 */
public final class TapeTests {
    private static final String DIGITS = "0123456789", LETTERS = "skudl", PART = "skudl!(", TAIL = "&|;";
    /** Nine clauses, two bytes less than a tape has room for. */
    private static final String NINE = "fine 1 s=1;".repeat(8) + "fine 1 s=1";

    public static void main(String[] args) {
        aTapeOf100();
        aTapeThatIsFull();
        aTapeBehindALongerOne();
        aTapeBehindLongFaults();
        whereATownEndsTooEarly();
        clausesFrom1();
        clausesUpTo10();
        words();
        blanks();
        numbers();
        parts();
        tests();
        behindATest();
        atMostFiveOpen();
        aParenthesisTillItsOther();
        aNotTillItsEnds();
        theFirstOfSeveralFaults();
        townsFrom0();
        fiveTowns();
        theNewestHolds();
        withoutATown();
        Bench.end("TapeTests");
    }

    /** Of all signs that may come behind the text, those in the other one are no fault, and all others are. */
    private static void goesOn(String text, String signs) {
        for (int sign = 0; sign <= 127; sign++) {
            EvenTally x = new EvenTally();
            Bench.feed(x, text);
            x.feed(sign);
            int fault = x.town() == -10 - text.length() ? 1 : 0;
            Bench.due("whether " + sign + " is a fault behind " + text, fault, signs.indexOf(sign) < 0 ? 1 : 0);
        }
    }

    private static void isTown(String text) {
        Bench.due(text, Bench.town(new EvenTally(), text), 0);
    }

    private static void isFault(String text) {
        int fault = text.indexOf('^');
        Bench.due(text, Bench.town(new EvenTally(), text.replace("^", "")), -10 - fault);
    }

    // ---- the tape

    private static void aTapeOf100() {
        Bench.sentence("THE TAPE (bytes, 100 at most)");
        EvenTally x = Bench.streets(2);
        Bench.feed(x, "fine 1 s<9;".repeat(8) + "allow 9 s<19");
        Bench.due("signs", x.count(3), 100);
        Bench.due("all 100 are a town", x.town(), 0);
        Bench.due("the eight ahead hold", x.of(1, 6), 18);
        Bench.due("the ninth holds", x.of(1, 5), 9);
        x = Bench.streets(2);
        Bench.due("the 100th is read", Bench.town(x, "fine 1 s<9;".repeat(8) + "allow 9 s=10"), 0);
        Bench.due("s is not 1, but 10", x.of(1, 5), 0);
        isFault("fine 1 s=1;".repeat(9) + "^x");
        isFault("fine 1 s=1;".repeat(9) + "f^");
        isFault(NINE + ";s^");
        isFault("fine 1 s=1;".repeat(8) + "allow 9 s<1;^");
        isFault("fine 1 s=1;".repeat(8) + "allow 9 s<1^)");
        goesOn(NINE, DIGITS + TAIL);
        goesOn(NINE + ";", "fsa");
        goesOn(NINE + "2", TAIL);
    }

    private static void aTapeThatIsFull() {
        Bench.sentence("FULL");
        EvenTally x = new EvenTally();
        Bench.feed(x, NINE + "2;");
        Bench.due("signs", x.count(3), 100);
        Bench.due("the 101st", x.feed('f'), -4);
        Bench.due("the 101st, once more", x.feed(0), -4);
        Bench.due("it is not there", x.count(3), 100);
        Bench.due("nor is it read", x.town(), -110);
        Bench.due("behind a town there is room", x.feed('f'), 1);
    }

    private static void aTapeBehindALongerOne() {
        Bench.sentence("THE TAPE, which is empty then (by a FAULT, too)");
        // Each shorter tape reads as it does on a new object: nothing of the longer one is left.
        String text = "fine 12 s=34&!(u<56);step 78 k>90";
        for (String longer : new String[] {text, text + "x", "9".repeat(100), "((((((((((((((((((((((((((((((((((("}) {
            for (int size = 0; size <= text.length(); size++) {
                EvenTally x = new EvenTally(), y = new EvenTally();
                int towns = Bench.town(x, longer) == 0 ? 1 : 0;
                Bench.feed(x, text.substring(0, size));
                Bench.feed(y, text.substring(0, size));
                int alone = y.town();
                Bench.due("the first " + size + " behind " + longer, x.town(), alone == 0 ? towns : alone);
            }
        }
        EvenTally x = Bench.streets(2);
        Bench.due("a longer fault", Bench.town(x, "allow 1 s=123"), -22);
        Bench.due("a shorter town", Bench.town(x, "allow 1 s=1"), 0);
        Bench.due("its number is 1", x.of(1, 5), 1);
    }

    private static void aTapeBehindLongFaults() {
        Bench.sentence("-10 less the FAULT (the one that held holds)");
        EvenTally x = Bench.withTown(Bench.streets(1), "fine 5 s=0");
        for (int i = 0; i < 4; i++) {
            Bench.due("a long fault", Bench.town(x, "fine 1 s=1|" + "s=1&".repeat(21) + "s=1;"), -109);
            Bench.due("the one that held holds", x.of(0, 6), 15);
        }
        Bench.due("a town behind all of them", Bench.town(x, "step 1 s=0&!s=1;step 2 s=1"), 1);
        Bench.due("it holds", x.of(0, 7), 2);
    }

    private static void whereATownEndsTooEarly() {
        Bench.sentence("(the size, if it ends too early)");
        Bench.due("an empty tape", new EvenTally().town(), -10);
        // A town may end at a full stop, and only there.
        String marked = "fine 20 u>2.&!(k=2).&!!l=3.;step 3 s<2.|d=1.;allow 12 l>1.0.&(s=1|(k<2))..";
        marked = marked.replace("..", ".");
        String text = marked.replace(".", "");
        for (int size = 0, at = 0; size <= text.length(); size++) {
            EvenTally x = new EvenTally();
            Bench.feed(x, text.substring(0, size));
            boolean ends = at < marked.length() && marked.charAt(at) == '.';
            Bench.due("the first " + size, x.town(), ends ? 0 : -10 - size);
            at += ends ? 2 : 1;
        }
    }

    // ---- clauses

    private static void clausesFrom1() {
        Bench.sentence("CLAUSES, 1 to 10, with ; between");
        isFault("^");
        isFault("^;");
        isFault("^;fine 1 s=1");
        isTown("fine 1 s=1");
        isTown("fine 1 s=1;fine 1 s=1");
        isFault("fine 1 s=1;^");
        isFault("fine 1 s=1;^;fine 1 s=1");
        isFault("fine 1 s=1^,fine 1 s=1");
        isFault("fine 1 s=1^ fine 1 s=1");
        isFault("fine 1 s=1;^ fine 1 s=1");
        isFault("fine 1 s=1^f");
    }

    private static void clausesUpTo10() {
        Bench.sentence("CLAUSES, 1 to 10, with ; between");
        // The shortest clause has 10 bytes, so that 100 bytes hold nine whole ones; a tenth may begin.
        EvenTally x = Bench.streets(2);
        Bench.due("nine", Bench.town(x, NINE), 0);
        Bench.due("each holds", x.of(1, 6), 19);
        Bench.due("and of this one none", x.of(0, 6), 10);
        goesOn(NINE + ";", "fsa");
        Bench.due("eight and one", Bench.town(x, "step 9 s=1;".repeat(8) + "step 7 s=1"), 1);
        Bench.due("eight and one hold", x.of(1, 7), 1 + 8 * 9 + 7);
        Bench.due("the fines of the one before are gone", x.of(1, 6), 10);
    }

    private static void words() {
        Bench.sentence("fine n E; step n E; allow n E");
        goesOn("", "fsa");
        for (String word : new String[] {"fine ", "step ", "allow "}) {
            for (int i = 1; i < word.length(); i++) {
                goesOn(word.substring(0, i), word.substring(i, i + 1));
                goesOn("step 1 s=1;" + word.substring(0, i), word.substring(i, i + 1));
            }
            goesOn(word, DIGITS);
        }
    }

    private static void blanks() {
        Bench.sentence("(one blank ahead of each part behind the word");
        isFault("fine^1 s=1");
        isFault("fine ^ 1 s=1");
        isFault("fine 1^s=1");
        isFault("fine 1 ^ s=1");
        isFault("^ fine 1 s=1");
        isFault("fine 1 s=1^ ");
        isFault("fine 1 s^ =1");
        isFault("fine 1 s=^ 1");
        isFault("fine 1 s=1^ &s=1");
        isFault("fine 1 s=1&^ s=1");
        isFault("fine 1 !^ s=1");
        isFault("fine 1 (^ s=1)");
        isFault("fine 1 (s=1^ )");
        isFault("fine 1 (s=1)^ ");
        isFault("fine^\t1 s=1");
    }

    private static void numbers() {
        Bench.sentence("n 1 or 2 digits, no 0 ahead of another");
        goesOn("step ", DIGITS);
        goesOn("step 0", " ");
        for (char digit = '1'; digit <= '9'; digit++) {
            goesOn("step " + digit, DIGITS + " ");
        }
        goesOn("step 10", " ");
        goesOn("step 99", " ");
        for (int n : new int[] {0, 1, 9, 10, 19, 90, 99}) {
            EvenTally x = Bench.withTown(Bench.streets(1), "fine " + n + " s=0;step " + n + " s=0;allow " + n + " s=0");
            Bench.due("fine " + n, x.of(0, 6), 10 + n);
            Bench.due("step " + n, x.of(0, 7), 1 + n);
            Bench.due("allow " + n, x.of(0, 5), n);
        }
        Bench.sentence("a number likewise");
        goesOn("step 1 s=", DIGITS);
        goesOn("step 1 s=0", TAIL);
        for (char digit = '1'; digit <= '9'; digit++) {
            goesOn("step 1 s=" + digit, DIGITS + TAIL);
        }
        goesOn("step 1 s=10", TAIL);
        goesOn("step 1 s=99", TAIL);
    }

    // ---- conditions

    private static void parts() {
        Bench.sentence("E: T, or T|E. T: F, or F&T. F: !F, (E), or a TEST");
        for (String ahead : new String[] {"", "!", "(", "s=1&", "s=1|", "(s=1)&", "(s=1)|", "!(", "(!", "!!", "((", "s=1&!",
            "(s=1|", "s=1;step 1 "}) {
            goesOn("fine 1 " + ahead, PART);
        }
        isFault("fine 1 (^)");
        isFault("fine 1 !^&s=1");
        isFault("fine 1 s=1&^&s=1");
        isFault("fine 1 s=1|^|s=1");
        isFault("fine 1 s=1&^|s=1");
        isFault("fine 1 s=1&^;");
        isFault("fine 1 s=1|^)");
    }

    private static void tests() {
        Bench.sentence("a TEST: s or k or u or d or l, one of < = >, a number likewise");
        for (int i = 0; i < LETTERS.length(); i++) {
            goesOn("allow 1 " + LETTERS.charAt(i), "<=>");
            for (char relation : new char[] {'<', '=', '>'}) {
                goesOn("allow 1 " + LETTERS.charAt(i) + relation, DIGITS);
                isTown("allow 1 " + LETTERS.charAt(i) + relation + "0");
                isTown("allow 1 " + LETTERS.charAt(i) + relation + "99");
            }
        }
        isFault("allow 1 ^5=s");
        isFault("allow 1 s^s=1");
        isFault("allow 1 s=^s");
    }

    private static void behindATest() {
        Bench.sentence("(E), or a TEST");
        goesOn("fine 1 s=0", TAIL);
        goesOn("fine 1 (s=0", "&|)");
        goesOn("fine 1 (s=1", DIGITS + "&|)");
        goesOn("fine 1 (s=12", "&|)");
        goesOn("fine 1 (s=0)", TAIL);
        goesOn("fine 1 ((s=0)", "&|)");
        goesOn("fine 1 ((s=0))", TAIL);
        goesOn("fine 1 !s=0", TAIL);
        goesOn("fine 1 !(s=0", "&|)");
        goesOn("fine 1 !(s=0)", TAIL);
        goesOn("fine 1 (!s=0", "&|)");
        goesOn("fine 1 (s=0&s=0", "&|)");
        goesOn("fine 1 (s=0|s=0", "&|)");
        goesOn("fine 1 s=0;fine 1 s=0", TAIL);
    }

    private static void atMostFiveOpen() {
        Bench.sentence("At most 5 of ! and ( are open");
        for (String ahead : new String[] {"!!!!", "((((", "!(!(", "(!(!", "!!((", "((!!"}) {
            goesOn("fine 1 " + ahead, PART);
            goesOn("fine 1 " + ahead + "!", LETTERS);
            goesOn("fine 1 " + ahead + "(", LETTERS);
        }
        isTown("fine 1 !!!!!s=1");
        isFault("fine 1 !!!!!^!s=1");
        isFault("fine 1 !!!!!^(s=1)");
        isTown("fine 1 (((((s=1)))))");
        isFault("fine 1 (((((^(s=1))))))");
        isFault("fine 1 (((((^!s=1)))))");
        isTown("fine 1 !(!(!s=1))");
        isTown("fine 1 (!(!(s=1)))");
        Bench.due("five ! turn it", Bench.holds(Bench.streets(1), 0, "!!!!!s=1"), 1);
        Bench.due("four ! do not", Bench.holds(Bench.streets(1), 0, "!!!!s=1"), 0);
        Bench.due("five ( leave it", Bench.holds(Bench.streets(1), 0, "(((((s=0)))))"), 1);
    }

    private static void aParenthesisTillItsOther() {
        Bench.sentence("(a ( till its )");
        goesOn("fine 1 (((((s=1", DIGITS + "&|)");
        goesOn("fine 1 (((((s=1&", LETTERS);
        goesOn("fine 1 (((((s=1|", LETTERS);
        goesOn("fine 1 (((((s=1)&", PART);
        goesOn("fine 1 (((((s=1)|", PART);
        goesOn("fine 1 (((((s=1)&(", LETTERS);
        goesOn("fine 1 (((((s=1)&!", LETTERS);
        goesOn("fine 1 (((((s=1))&(", PART);
        goesOn("fine 1 (((((s=1))&((", LETTERS);
        goesOn("fine 1 (((((s=1)))))&((((", PART);
        goesOn("fine 1 (((((s=1)))))|(((((", LETTERS);
        goesOn("fine 1 (((((s=1)))))", TAIL);
        goesOn("fine 1 (((((s=1))))", "&|)");
        isFault("fine 1 (((((s=1)))))^)");
        isTown("fine 1 (((((s=1)&(s=1)))))");
        isTown("step 1 (((((s=1)))));step 1 (((((s=1)))))");
    }

    private static void aNotTillItsEnds() {
        Bench.sentence("a ! till its F ends)");
        goesOn("fine 1 !!!!!s=1&", PART);
        goesOn("fine 1 !!!!!s=1|!!!!", PART);
        goesOn("fine 1 !!!!!s=1&!!!!!", LETTERS);
        goesOn("fine 1 !!!!!s=1&((((", PART);
        goesOn("fine 1 (!!!!s=1&!!!", PART);
        goesOn("fine 1 (!!!!s=1&!!!!", LETTERS);
        goesOn("fine 1 (!!!!s=1|!!!!", LETTERS);
        // The ! is open till the F behind it ends, which the ( is.
        goesOn("fine 1 !(s=1&!!", PART);
        goesOn("fine 1 !(s=1&!!!", LETTERS);
        goesOn("fine 1 !(s=1|(((", LETTERS);
        goesOn("fine 1 !(s=1)&!!!!", PART);
        goesOn("fine 1 !(s=1)&!!!!!", LETTERS);
        goesOn("fine 1 !!(!s=1&!", PART);
        goesOn("fine 1 !!(!s=1&!!", LETTERS);
        goesOn("fine 1 !!!!(s=1)&(((", PART);
        goesOn("fine 1 !(!(s=1)&!(", PART);
        goesOn("fine 1 !(!(s=1)&!((", LETTERS);
        goesOn("fine 1 !!!!!s=1;fine 1 !!!!", PART);
        goesOn("fine 1 !!!!!s=1;fine 1 !!!!!", LETTERS);
        // It turns the F alone, not what comes behind that.
        EvenTally x = Bench.streets(3);
        Bench.due("!F&T where T fails", Bench.holds(x, 0, "!s=1&s=2"), 0);
        Bench.due("!F&T where both hold", Bench.holds(x, 0, "!s=1&s=0"), 1);
        Bench.due("!(E) turns all of it", Bench.holds(x, 0, "!(s=1&s=2)"), 1);
        Bench.due("!F|E where E holds", Bench.holds(x, 0, "!s=0|s=0"), 1);
    }

    private static void theFirstOfSeveralFaults() {
        Bench.sentence("FAULT: the place of the first byte with which no TOWN can go on");
        isFault("^Xine 1 s=1X");
        isFault("fine ^X s=1X");
        isFault("fine 1 s=1;fin^");
        isFault("fine 1 s=1;f^o");
        isFault("fine 1 s=1;step 1 s=1;allow 10^0 s=1;x");
        isFault("fine 1 s=0^1x");
        isFault("fine 1 (s=1^;fine 1 s=1)");
        isFault("^\0");
        isFault("fine 1 s=1^\177");
        isFault("^FINE 1 s=1");
        isFault("fine 1 ^S=1");
    }

    // ---- towns

    private static void townsFrom0() {
        Bench.sentence("TOWNS are numbered from 0 on, 5 at most");
        EvenTally x = Bench.streets(1);
        for (int i = 0; i < 5; i++) {
            Bench.due("towns ahead", x.count(1), i);
            Bench.due("a fault takes no number", Bench.town(x, "fine s"), -15);
            Bench.due("town " + i, Bench.town(x, "fine " + (20 + i) + " s=0"), i);
            Bench.due("it holds", x.of(0, 6), 30 + i);
            Bench.due("towns behind", x.count(1), i + 1);
            Bench.due("the tape is empty", x.count(3), 0);
        }
    }

    private static EvenTally ofFive() {
        EvenTally x = Bench.streets(1);
        for (int i = 0; i < 5; i++) {
            Bench.town(x, "fine " + (20 + i) + " s=0");
        }
        return x;
    }

    private static void fiveTowns() {
        Bench.sentence("FULL (ahead of all; THE TAPE stays)");
        Bench.due("the sixth, of an empty tape", ofFive().town(), -4);
        EvenTally x = ofFive();
        Bench.due("the sixth, of a fault", Bench.town(x, "x"), -4);
        Bench.due("the tape of a fault stays", x.count(3), 1);
        x = ofFive();
        Bench.due("the sixth", Bench.town(x, "fine 99 s=0"), -4);
        Bench.due("the tape stays", x.count(3), 11);
        Bench.due("the sixth, once more", x.town(), -4);
        Bench.due("the tape stays, once more", x.feed('|'), 12);
        Bench.due("the fifth holds still", x.of(0, 6), 34);
        Bench.due("there are five", x.count(1), 5);
        Bench.still("it changes nothing", () -> {
            EvenTally y = ofFive();
            y.image();
            Bench.feed(y, "fine 99 s=0");
            return y;
        }, y -> y.town(), -4);
    }

    private static void theNewestHolds() {
        Bench.sentence("the newest one holds");
        EvenTally x = Bench.withTown(Bench.streets(1), "fine 1 s=0;step 2 s=0;allow 3 s=0");
        Bench.due("step", x.of(0, 7), 3);
        Bench.withTown(x, "fine 5 s=0");
        Bench.due("its fine", x.of(0, 6), 15);
        Bench.due("the older one's step is gone", x.of(0, 7), 1);
        Bench.due("the older one's allowed is gone", x.of(0, 5), 0);
        Bench.sentence("-10 less the FAULT (the one that held holds)");
        Bench.due("a fault behind two good clauses", Bench.town(x, "fine 9 s=0;step 9 s=0;allow 9 s"), -41);
        Bench.due("fine", x.of(0, 6), 15);
        Bench.due("step behind a fault", x.of(0, 7), 1);
        Bench.sentence("THE TAPE, which is empty then (by a FAULT, too)");
        Bench.due("signs", x.count(3), 0);
        Bench.due("the next sign is the first", x.feed('f'), 1);
        Bench.due("the next town reads it alone", x.town(), -11);
        Bench.due("an empty tape is a fault", x.town(), -10);
        Bench.due("the one that held holds", x.of(0, 6), 15);
        Bench.due("two towns", x.count(1), 2);
    }

    private static void withoutATown() {
        Bench.sentence("without one there are no CLAUSES");
        EvenTally x = Bench.streets(1);
        Bench.due("allowed", x.of(0, 5), 0);
        Bench.due("fine", x.of(0, 6), 10);
        Bench.due("step", x.of(0, 7), 1);
        Bench.due("a fault is none", Bench.town(x, "fine 9 s=0;"), -21);
        Bench.due("fine behind a fault", x.of(0, 6), 10);
        Bench.feed(x, "fine 9 s=0");
        Bench.due("a tape is none", x.of(0, 6), 10);
    }
}

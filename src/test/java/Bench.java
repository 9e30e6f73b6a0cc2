import java.util.function.Supplier;
import java.util.function.ToLongFunction;

/** What the tests of boundaries share: what was asked and wrong, and short ways to put up streets. */
final class Bench {
    static final int MIN = Integer.MIN_VALUE, MAX = Integer.MAX_VALUE;
    static final int FAR_NONE = -1000001, FAR_BAD = -1000002, FAR_STATE = -1000003;
    private static String sentence = "";
    private static int asked = 0;
    private static int wrong = 0;

    private Bench() {
    }

    /** The document's words that the next calls of due() hold the program against. */
    static void sentence(String words) {
        sentence = words;
    }

    static void due(String told, long got, long want) {
        asked++;
        if (got != want) {
            wrong++;
            System.out.println("\"" + sentence + "\": " + told + " answered " + got + ", due is " + want);
        }
    }

    static void end(String name) {
        System.out.println(name + ": " + asked + " asked, " + wrong + " wrong");
        if (wrong != 0) {
            System.exit(1);
        }
    }

    // ---- putting up

    static void feed(EvenTally x, String text) {
        for (int i = 0; i < text.length(); i++) {
            x.feed(text.charAt(i));
        }
    }

    static int town(EvenTally x, String text) {
        feed(x, text);
        return x.town();
    }

    static EvenTally withTown(EvenTally x, String text) {
        due("the town " + text, town(x, text) >= 0 ? 1 : 0, 1);
        return x;
    }

    /** Streets of these kinds, of v 0. */
    static EvenTally kinds(int... kinds) {
        EvenTally x = new EvenTally();
        for (int kind : kinds) {
            x.street(kind, 0);
        }
        return x;
    }

    /** STREETs of v 0. */
    static EvenTally streets(int n) {
        return kinds(new int[n]);
    }

    /** Each two digits are a lead. */
    static EvenTally leads(EvenTally x, String pairs) {
        for (String pair : pairs.split(" ")) {
            x.lead(pair.charAt(0) - '0', pair.charAt(1) - '0', true);
        }
        return x;
    }

    static EvenTally allLeads(EvenTally x) {
        for (int i = 0; i < x.count(0); i++) {
            for (int j = 0; j < x.count(0); j++) {
                x.lead(i, j, true);
            }
        }
        return x;
    }

    static EvenTally uneven(EvenTally x, int... by) {
        for (int i = 0; i < by.length; i++) {
            x.tally(i, 0, Math.max(0, by[i]));
            x.tally(i, 1, Math.max(0, -by[i]));
        }
        return x;
    }

    static EvenTally onDay(EvenTally x, int day) {
        x.day(day);
        return x;
    }

    /** 1 if the condition holds of the street: then a step of it costs one more. What was is put back. */
    static int holds(EvenTally x, int street, String condition) {
        int was = x.of(street, 7);
        x.image();
        due("the town of " + condition, town(x, "step 1 " + condition), x.count(1) - 1);
        int is = x.of(street, 7);
        x.undo();
        return is - was;
    }

    // ---- everything that there is

    /** All that can be told of it without changing it. */
    static String all(EvenTally x) {
        StringBuilder text = new StringBuilder();
        int streets = x.count(0);
        for (int street = 0; street < streets; street++) {
            for (int what = 0; what <= 10; what++) {
                text.append(x.of(street, what)).append(' ');
            }
        }
        for (int what = 0; what <= 4; what++) {
            text.append(x.told(what)).append(' ').append(x.count(what)).append(' ').append(x.wrong(what)).append(' ');
        }
        for (int i = 0; i < 7; i++) {
            text.append(x.trace(i)).append(' ');
        }
        return text.toString();
    }

    /** Whether two are alike in all, what the tape reads and what an image held included; it changes both. */
    static void same(String told, EvenTally x, EvenTally y) {
        due(told + ": all is alike", all(x).equals(all(y)) ? 1 : 0, 1);
        due(told + ": the tape is alike", x.town(), y.town());
        due(told + ": what the tape reads is alike", all(x).equals(all(y)) ? 1 : 0, 1);
        due(told + ": there is an image or not", x.undo(), y.undo());
        due(told + ": the image is alike", all(x).equals(all(y)) ? 1 : 0, 1);
        due(told + ": the image's tape is alike", x.town(), y.town());
    }

    /** As still(), of a call that may take an image: only what an image does not hold is left unlooked at. */
    static void stillNow(String told, Supplier<EvenTally> made, ToLongFunction<EvenTally> call, long want) {
        EvenTally x = made.get();
        due(told, call.applyAsLong(x), want);
        due(told + ": all is alike", all(x).equals(all(made.get())) ? 1 : 0, 1);
    }

    /** The call's answer is due, and behind it all is as it is without the call. */
    static void still(String told, Supplier<EvenTally> made, ToLongFunction<EvenTally> call, long want) {
        EvenTally x = made.get();
        due(told, call.applyAsLong(x), want);
        same(told, x, made.get());
    }
}

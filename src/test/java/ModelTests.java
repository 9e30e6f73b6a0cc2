import java.util.ArrayList;
import java.util.Arrays;
import java.util.HashMap;
import java.util.List;
import java.util.Map;
import java.util.PriorityQueue;
import java.util.Random;

/**
 * Random runs of calls, each answer held against a second program (Model) that was written from the
 * document in other ways: a machine of states for the tape, cancelling of cycles for what is cheapest
 * (itself held against a search through all tallies), all orders for errands, fractions for chances.
 */
public final class ModelTests {
    private static int wrong = 0;

    public static void main(String[] args) {
        for (int seed = 0; seed < 700 && wrong < 20; seed++) {
            new Run(seed).go();
        }
        for (int seed = 0; seed < 3000 && wrong < 20; seed++) {
            tapes(seed);
        }
        for (int seed = 0; seed < 250 && wrong < 20; seed++) {
            smallBalances(seed);
        }
        System.out.println(wrong == 0 ? "ModelTests: all answers are as due" : "ModelTests: " + wrong + " wrong");
        if (wrong != 0) {
            System.exit(1);
        }
    }

    private static void due(String told, long got, long want) {
        if (got != want) {
            wrong++;
            System.out.println(told + " answered " + got + ", due is " + want);
        }
    }

    // ---- random runs

    private static final class Run {
        final Random random;
        final int seed;
        final int large;
        final EvenTally x = new EvenTally();
        final Model m = new Model();
        int calls = 0;

        Run(int seed) {
            this.seed = seed;
            random = new Random(seed);
            large = random.nextInt(3) == 0 ? 9999 : 30;
        }

        void check(String call, long got, long want) {
            calls++;
            due("seed " + seed + ", call " + calls + ": " + call, got, want);
        }

        int wild() {
            int[] some = {-1, -2, 7, 8, 9, 10, 100, 1000, 10000, Integer.MIN_VALUE, Integer.MAX_VALUE, -1000};
            return some[random.nextInt(some.length)];
        }

        int number(int below) {
            return random.nextInt(25) == 0 ? wild() : random.nextInt(Math.max(1, below));
        }

        int aStreet() {
            return number(m.streets);
        }

        void go() {
            for (int i = random.nextInt(8); i > 0; i--) {
                addStreet();
            }
            for (int i = random.nextInt(30); i > 0 && m.streets > 0; i--) {
                addLead();
            }
            while (calls < 512 && wrong < 20) {
                one();
            }
        }

        void addStreet() {
            int kind = number(7), v = number(10);
            check("street(" + kind + ", " + v + ")", x.street(kind, v), m.street(kind, v));
        }

        void addLead() {
            int a = aStreet(), b = aStreet();
            boolean is = random.nextInt(3) > 0;
            check("lead(" + a + ", " + b + ", " + is + ")", x.lead(a, b, is), m.lead(a, b, is));
        }

        void feedTown() {
            String text = random.nextInt(3) == 0 ? brokenTown(random) : someTown(random);
            for (int i = 0; i < text.length() && calls < 500; i++) {
                int sign = text.charAt(i);
                check("feed(" + sign + ")", x.feed(sign), m.feed(sign));
            }
            check("town() of " + text, x.town(), m.town());
        }

        void one() {
            int a = aStreet(), b = aStreet();
            switch (random.nextInt(34)) {
                case 0: if (random.nextInt(4) == 0) feedTown(); break;
                case 1: { int n = number(100); check("day(" + n + ")", x.day(n), m.day(n)); break; }
                case 2: if (random.nextInt(8) == 0) addStreet(); break;
                case 3: case 4: addLead(); break;
                case 5: case 6: case 7: {
                    int what = number(11);
                    check("of(" + a + ", " + what + ")", x.of(a, what), m.of(a, what));
                    break;
                }
                case 8: case 9: {
                    int what = number(4);
                    check("told(" + what + ")", x.told(what), m.told(what));
                    break;
                }
                case 10: case 11: {
                    int n = number(10);
                    check("go(" + a + ", " + b + ", " + n + ")", x.go(a, b, n), m.go(a, b, n));
                    break;
                }
                case 12: case 13: {
                    int what = number(2), n = number(large + 1);
                    check("tally(" + a + ", " + what + ", " + n + ")", x.tally(a, what, n), m.tally(a, what, n));
                    break;
                }
                case 14: case 15: {
                    int what = number(2);
                    check("cost(" + what + ")", x.cost(what), m.cost(what));
                    break;
                }
                case 16: check("gate(" + a + ")", x.gate(a), m.gate(a)); break;
                case 17: check("fresh(" + a + ", " + b + ")", x.fresh(a, b), m.fresh(a, b)); break;
                case 18: check("need(" + a + ", " + b + ")", x.need(a, b), m.need(a, b)); break;
                case 19: check("way(" + a + ", " + b + ")", x.way(a, b), m.way(a, b)); break;
                case 20: case 21: {
                    int set = number(1 << m.streets), k = number(9) - 1;
                    check("errands(" + a + ", " + set + ", " + k + ")", x.errands(a, set, k), m.errands(a, set, k));
                    break;
                }
                case 22: check("stand()", x.stand(), m.stand()); break;
                case 23: {
                    int n = number(22);
                    check("ways(" + a + ", " + b + ", " + n + ")", x.ways(a, b, n), m.ways(a, b, n));
                    break;
                }
                case 24: {
                    int n = number(8), part = number(2);
                    check("stray(" + a + ", " + b + ", " + n + ", " + part + ")",
                        x.stray(a, b, n, part), m.stray(a, b, n, part));
                    break;
                }
                case 25: case 26: {
                    int top = random.nextBoolean() ? 20 : 1000;
                    int in = random.nextInt(9) == 0 ? -1 : number(top), out = number(top);
                    check("tell(" + in + ", " + out + ")", x.tell(in, out), m.tell(in, out));
                    break;
                }
                case 27: { int what = number(3); check("wrong(" + what + ")", x.wrong(what), m.wrong(what)); break; }
                case 28: {
                    int act = number(3), to = random.nextBoolean() ? random.nextInt() : random.nextInt(100);
                    check("act(" + a + ", " + act + ", " + to + ")", x.act(a, act, to), m.act(a, act, to));
                    break;
                }
                case 29: { int i = number(9) - 1; check("trace(" + i + ")", x.trace(i), m.trace(i)); break; }
                case 30: { int k = number(7); check("as(" + a + ", " + k + ")", x.as(a, k), m.as(a, k)); break; }
                case 31: if (random.nextInt(4) == 0) check("image()", x.image(), m.image()); break;
                case 32: if (random.nextInt(4) == 0) check("undo()", x.undo(), m.undo()); break;
                default: { int what = number(5); check("count(" + what + ")", x.count(what), m.count(what)); }
            }
        }
    }

    // ---- texts of towns

    private static String someTown(Random random) {
        StringBuilder text = new StringBuilder(someClause(random));
        for (int i = 0; i < 12; i++) {
            String more = ";" + someClause(random);
            if (text.length() + more.length() <= 100 && random.nextInt(5) > 0) {
                text.append(more);
            }
        }
        return text.toString();
    }

    private static String someClause(Random random) {
        String[] words = {"fine", "step", "allow"};
        for (;;) {
            String text = words[random.nextInt(3)] + " " + someNumber(random) + " " + either(random, 0);
            if (text.length() <= 70) {
                return text;
            }
        }
    }

    private static int someNumber(Random random) {
        return random.nextInt(3) == 0 ? random.nextInt(100) : random.nextInt(10);
    }

    private static String either(Random random, int open) {
        String text = both(random, open);
        while (random.nextInt(4) == 0) {
            text += "|" + both(random, open);
        }
        return text;
    }

    private static String both(Random random, int open) {
        String text = part(random, open);
        while (random.nextInt(4) == 0) {
            text += "&" + part(random, open);
        }
        return text;
    }

    private static String part(Random random, int open) {
        int way = random.nextInt(6);
        if (open < 5 && way == 0) {
            return "!" + part(random, open + 1);
        }
        if (open < 5 && way == 1) {
            return "(" + either(random, open + 1) + ")";
        }
        return "" + "skudl".charAt(random.nextInt(5)) + "<=>".charAt(random.nextInt(3)) + someNumber(random);
    }

    private static String brokenTown(Random random) {
        StringBuilder text = new StringBuilder(someTown(random));
        for (int i = random.nextInt(3); i >= 0 && text.length() > 0; i--) {
            int at = random.nextInt(text.length());
            String signs = "skudl<=>&|!();0123 finestepallow\0~F";
            char sign = signs.charAt(random.nextInt(signs.length()));
            switch (random.nextInt(4)) {
                case 0: text.setLength(at); break;
                case 1: text.deleteCharAt(at); break;
                case 2: text.setCharAt(at, sign); break;
                default: text.insert(at, random.nextBoolean() ? "" + sign : random.nextBoolean() ? "!!!" : "((");
            }
        }
        text.setLength(Math.min(text.length(), 100));
        return text.toString();
    }

    private static void tapes(int seed) {
        Random random = new Random(seed);
        EvenTally x = new EvenTally();
        for (int i = 0; i < 4; i++) {
            String text = random.nextInt(4) == 0 ? someTown(random) : brokenTown(random);
            for (int at = 0; at < text.length(); at++) {
                x.feed(text.charAt(at));
            }
            int fault = Model.fault(text);
            due("tape " + text, x.town() <= -10 ? 1 : 0, fault >= 0 ? 1 : 0);
            for (int at = 0; at < text.length(); at++) {
                x.feed(text.charAt(at));
            }
            int number = x.count(1);
            due("tape again " + text, x.town(), number >= 5 ? -4 : fault >= 0 ? -10 - fault : number);
            if (number >= 5) {
                return;
            }
        }
    }

    // ---- what is cheapest, by a search through all tallies

    private static void smallBalances(int seed) {
        Random random = new Random(seed);
        Model m = new Model();
        EvenTally x = new EvenTally();
        int streets = 2 + random.nextInt(3);
        for (int i = 0; i < streets; i++) {
            int kind = random.nextInt(7), v = random.nextInt(4);
            kind = kind == 4 ? 0 : kind;
            m.street(kind, v);
            x.street(kind, v);
        }
        String town = random.nextBoolean() ? "step 2 s=1;step 4 s=0|u>2;allow 1 k<3" : "fine 9 s<2;allow 2 s=1;step 7 u=1";
        for (int i = 0; i < town.length(); i++) {
            m.feed(town.charAt(i));
            x.feed(town.charAt(i));
        }
        m.town();
        x.town();
        for (int i = 0; i < streets; i++) {
            for (int j = 0; j < streets; j++) {
                if (random.nextInt(5) < 2) {
                    m.lead(i, j, true);
                    x.lead(i, j, true);
                }
            }
            int in = random.nextInt(4), out = random.nextInt(4);
            m.tally(i, 0, in);
            m.tally(i, 1, out);
            x.tally(i, 0, in);
            x.tally(i, 1, out);
        }
        due("small " + seed + " cheapest", x.cost(1), searched(m, true));
        due("small " + seed + " least", x.cost(0), searched(m, false));
        due("small " + seed + " model's cheapest", m.cost(1), searched(m, true));
        due("small " + seed + " model's least", m.cost(0), searched(m, false));
    }

    private static int searched(Model m, boolean paying) {
        int n = m.streets, bound = 9, best = paying ? Integer.MAX_VALUE : -5;
        int[] start = new int[n];
        for (int i = 0; i < n; i++) {
            start[i] = m.in[i] - m.out[i];
        }
        Map<List<Integer>, Integer> reached = new HashMap<>();
        PriorityQueue<int[]> queue = new PriorityQueue<>((p, q) -> Integer.compare(p[n], q[n]));
        int[] first = Arrays.copyOf(start, n + 1);
        queue.add(first);
        while (!queue.isEmpty()) {
            int[] at = queue.poll();
            List<Integer> key = listOf(at, n);
            if (reached.containsKey(key)) {
                continue;
            }
            reached.put(key, at[n]);
            int pay = 0;
            for (int i = 0; i < n; i++) {
                pay += m.of(i, 6) * Math.max(0, Math.abs(at[i]) - m.of(i, 5));
            }
            if (paying) {
                best = Math.min(best, at[n] + pay);
                if (at[n] >= best) {
                    return best;
                }
            } else if (pay == 0) {
                return at[n];
            }
            for (int i = 0; i < n; i++) {
                for (int j = 0; j < n; j++) {
                    if ((m.of(i, 10) >> j & 1) == 1 && at[i] > -bound && at[j] < bound) {
                        int[] next = at.clone();
                        next[i]--;
                        next[j]++;
                        next[n] += m.of(i, 7);
                        queue.add(next);
                    }
                }
            }
        }
        return best;
    }

    private static List<Integer> listOf(int[] at, int n) {
        List<Integer> list = new ArrayList<>();
        for (int i = 0; i < n; i++) {
            list.add(at[i]);
        }
        return list;
    }

    // ---- the second program

    private static final class Model implements Cloneable {
        static final int[] UP = {-1, 0, 0, 0, 1, 2, 3};
        int streets = 0, date = 0, towns = 0;
        int[] kind = new int[7], v = new int[7], in = new int[7], out = new int[7];
        boolean[][] leads = new boolean[7][7];
        String tape = "", text = "";
        List<int[]> tallies = new ArrayList<>();
        List<Integer> ran = new ArrayList<>();
        Model kept = null;

        Model copy() {
            Model c = new Model();
            c.streets = streets;
            c.date = date;
            c.towns = towns;
            c.kind = kind.clone();
            c.v = v.clone();
            c.in = in.clone();
            c.out = out.clone();
            for (int i = 0; i < 7; i++) {
                c.leads[i] = leads[i].clone();
            }
            c.tape = tape;
            c.text = text;
            c.tallies = new ArrayList<>(tallies);
            return c;
        }

        int image() {
            kept = copy();
            return streets;
        }

        int undo() {
            if (kept == null) {
                return -3;
            }
            Model c = kept.copy();
            streets = c.streets;
            date = c.date;
            towns = c.towns;
            kind = c.kind;
            v = c.v;
            in = c.in;
            out = c.out;
            leads = c.leads;
            tape = c.tape;
            text = c.text;
            tallies = c.tallies;
            return streets;
        }

        boolean no(int street) {
            return street < 0 || street >= streets;
        }

        int feed(int sign) {
            if (sign < 0 || sign > 127) {
                return -2;
            }
            if (tape.length() == 100) {
                return -4;
            }
            tape += (char) sign;
            return tape.length();
        }

        int town() {
            if (towns == 5) {
                return -4;
            }
            String read = tape;
            tape = "";
            int fault = fault(read);
            if (fault >= 0) {
                return -10 - fault;
            }
            text = read;
            return towns++;
        }

        /** A machine of states, a sign at a time; the fault or -1. */
        static int fault(String s) {
            String stack = "";
            String want = "word";
            int clauses = 1, at = 0;
            String word = "";
            boolean more = false, number = false;
            for (; at < s.length(); at++) {
                char c = s.charAt(at);
                boolean isDigit = c >= '0' && c <= '9';
                if (want.equals("word")) {
                    String grown = word + c;
                    if (!"fine ".startsWith(grown) && !"step ".startsWith(grown) && !"allow ".startsWith(grown)) {
                        return at;
                    }
                    word = grown;
                    if (c == ' ') {
                        want = "n";
                        number = false;
                    }
                } else if (want.equals("n")) {
                    if (isDigit && (!number || more)) {
                        more = !number && c != '0';
                        number = true;
                    } else if (c == ' ' && number) {
                        want = "F";
                    } else {
                        return at;
                    }
                } else if (want.equals("F")) {
                    if ((c == '!' || c == '(') && stack.length() < 5) {
                        stack += c;
                    } else if ("skudl".indexOf(c) >= 0) {
                        want = "relation";
                    } else {
                        return at;
                    }
                } else if (want.equals("relation")) {
                    if ("<=>".indexOf(c) < 0) {
                        return at;
                    }
                    want = "number";
                } else if (want.equals("number")) {
                    if (!isDigit) {
                        return at;
                    }
                    more = c != '0';
                    want = "behind";
                } else {
                    if (isDigit && more) {
                        more = false;
                        continue;
                    }
                    more = false;
                    stack = stack.replaceAll("!+$", "");
                    if (c == '&' || c == '|') {
                        want = "F";
                    } else if (c == ')' && stack.endsWith("(")) {
                        stack = stack.substring(0, stack.length() - 1);
                    } else if (c == ';' && stack.isEmpty() && clauses < 10) {
                        clauses++;
                        want = "word";
                        word = "";
                    } else {
                        return at;
                    }
                }
            }
            return want.equals("behind") && stack.replaceAll("!+$", "").isEmpty() ? -1 : at;
        }

        int sum(String word, int street) {
            int sum = 0;
            if (text.isEmpty()) {
                return 0;
            }
            for (String clause : text.split(";")) {
                String[] parts = clause.split(" ");
                if (parts[0].equals(word) && holds(parts[2], street)) {
                    sum += Integer.parseInt(parts[1]);
                }
            }
            return sum;
        }

        boolean holds(String e, int street) {
            int depth = 0, or = -1, and = -1;
            for (int i = 0; i < e.length(); i++) {
                char c = e.charAt(i);
                depth += c == '(' ? 1 : c == ')' ? -1 : 0;
                if (depth == 0 && c == '|') {
                    or = i;
                }
                if (depth == 0 && c == '&') {
                    and = i;
                }
            }
            if (or >= 0) {
                return holds(e.substring(0, or), street) | holds(e.substring(or + 1), street);
            }
            if (and >= 0) {
                return holds(e.substring(0, and), street) & holds(e.substring(and + 1), street);
            }
            if (e.charAt(0) == '!') {
                return !holds(e.substring(1), street);
            }
            if (e.charAt(0) == '(') {
                return holds(e.substring(1, e.length() - 1), street);
            }
            int fact = 0;
            switch (e.charAt(0)) {
                case 's': fact = street; break;
                case 'k': fact = kind[street]; break;
                case 'u': fact = Math.abs(in[street] - out[street]); break;
                case 'd': fact = date % 7; break;
                default:
                    for (int j = 0; j < 7; j++) {
                        fact += leads[street][j] ? 1 : 0;
                    }
            }
            int n = Integer.parseInt(e.substring(2));
            return e.charAt(1) == '<' ? fact < n : e.charAt(1) == '=' ? fact == n : fact > n;
        }

        int day(int n) {
            if (n < 0 || n > 99) {
                return -2;
            }
            int was = date;
            date = n;
            return was;
        }

        int street(int k, int number) {
            if (k < 0 || k > 6) {
                return -1;
            }
            if (number < 0 || number > 9) {
                return -2;
            }
            if (streets == 7) {
                return -4;
            }
            kind[streets] = k;
            v[streets] = number;
            in[streets] = out[streets] = 0;
            return streets++;
        }

        int lead(int a, int b, boolean is) {
            if (no(a) || no(b)) {
                return -1;
            }
            if (a == b) {
                return -2;
            }
            int was = leads[a][b] ? 1 : 0;
            leads[a][b] = is;
            return was;
        }

        boolean open(int a, int b) {
            if (!leads[a][b]) {
                return false;
            }
            if ((kind[a] == 3 || kind[a] == 6) && b < a) {
                return false;
            }
            return !(kind[b] == 6 && date % (v[b] + 2) == 0);
        }

        int allowed(int s) {
            return kind[s] == 4 ? 9999 : sum("allow", s) + (kind[s] == 1 && date % 7 == 0 ? v[s] : 0);
        }

        int fine(int s) {
            int fine = 10 + sum("fine", s);
            return kind[s] == 2 || kind[s] == 5 ? fine / 2 : fine;
        }

        int step(int s) {
            return 1 + sum("step", s) - (kind[s] == 5 ? 1 : 0);
        }

        int pays(int s) {
            return fine(s) * Math.max(0, Math.abs(in[s] - out[s]) - allowed(s));
        }

        int of(int s, int what) {
            if (no(s) || what < 0 || what > 10) {
                return -1000001;
            }
            int leadBits = 0, openBits = 0;
            for (int j = 0; j < streets; j++) {
                leadBits += leads[s][j] ? 1 << j : 0;
                openBits += open(s, j) ? 1 << j : 0;
            }
            return new int[] {kind[s], v[s], in[s], out[s], in[s] - out[s], allowed(s), fine(s), step(s), pays(s),
                leadBits, openBits}[what];
        }

        int told(int what) {
            int all = 0, uneven = 0, bits = 0;
            for (int s = 0; s < streets; s++) {
                all += pays(s);
                uneven += in[s] - out[s];
                bits |= pays(s) > 0 ? 1 << s : 0;
            }
            return what < 0 || what > 3 ? -1000001 : new int[] {date, all, uneven, bits}[what];
        }

        int go(int a, int b, int n) {
            if (no(a) || no(b)) {
                return -1000001;
            }
            if (n < 1 || n > 9) {
                return -1000002;
            }
            if (a == b || !open(a, b) || out[a] > 9999 - n || in[b] > 9999 - n) {
                return -1000003;
            }
            out[a] += n;
            in[b] += n;
            return in[b] - out[b];
        }

        int tally(int s, int what, int n) {
            if (no(s) || what != 0 && what != 1) {
                return -1;
            }
            if (n < 0 || n > 9999) {
                return -2;
            }
            int was = what == 0 ? in[s] : out[s];
            if (what == 0) {
                in[s] = n;
            } else {
                out[s] = n;
            }
            return was;
        }

        // Cancels cycles that cost less than nothing, from nobody's going at all.
        long cancelled(boolean[][] open, int[] allowed, long[] fine) {
            int hub = streets;
            long[][] flow = new long[7][7];
            long[] w = new long[7];
            for (int i = 0; i < streets; i++) {
                w[i] = in[i] - out[i];
            }
            for (;;) {
                long[][] price = new long[8][8];
                long[][] room = new long[8][8];
                for (int i = 0; i < streets; i++) {
                    upAndDown(i, hub, w[i], allowed[i], fine[i], price, room);
                    for (int j = 0; j < streets; j++) {
                        // Behind a flow its way back is never dearer than a going of the other one.
                        if (flow[j][i] > 0) {
                            price[i][j] = -step(j);
                            room[i][j] = flow[j][i];
                        } else if (open[i][j]) {
                            price[i][j] = step(i);
                            room[i][j] = Long.MAX_VALUE;
                        }
                    }
                }
                int[] cycle = cheapCycle(price, room, streets + 1);
                if (cycle == null) {
                    break;
                }
                long amount = Long.MAX_VALUE;
                for (int c = 0; c < cycle.length; c++) {
                    amount = Math.min(amount, room[cycle[c]][cycle[(c + 1) % cycle.length]]);
                }
                for (int c = 0; c < cycle.length; c++) {
                    int a = cycle[c], b = cycle[(c + 1) % cycle.length];
                    if (a == hub) {
                        w[b] -= amount;
                    } else if (b == hub) {
                        w[a] += amount;
                    } else if (flow[b][a] > 0) {
                        flow[b][a] -= amount;
                    } else {
                        flow[a][b] += amount;
                    }
                }
            }
            long cost = 0;
            for (int i = 0; i < streets; i++) {
                cost += fine[i] * Math.max(0, Math.abs(w[i]) - allowed[i]);
                for (int j = 0; j < streets; j++) {
                    cost += flow[i][j] * step(i);
                }
            }
            return cost;
        }

        // From the hub to a street: it has one less; from a street to the hub: it has one more.
        void upAndDown(int i, int hub, long w, int allowed, long fine, long[][] price, long[][] room) {
            price[hub][i] = w > allowed ? -fine : w > -allowed ? 0 : fine;
            room[hub][i] = w > allowed ? w - allowed : w > -allowed ? w + allowed : Long.MAX_VALUE;
            price[i][hub] = w < -allowed ? -fine : w < allowed ? 0 : fine;
            room[i][hub] = w < -allowed ? -allowed - w : w < allowed ? allowed - w : Long.MAX_VALUE;
        }

        int[] cheapCycle(long[][] price, long[][] room, int n) {
            long[] far = new long[n];
            int[] from = new int[n];
            Arrays.fill(from, -1);
            int changed = -1;
            for (int round = 0; round <= n; round++) {
                changed = -1;
                for (int a = 0; a < n; a++) {
                    for (int b = 0; b < n; b++) {
                        if (room[a][b] > 0 && far[a] + price[a][b] < far[b]) {
                            far[b] = far[a] + price[a][b];
                            from[b] = a;
                            changed = b;
                        }
                    }
                }
                if (changed < 0) {
                    return null;
                }
            }
            int at = changed;
            for (int i = 0; i < n; i++) {
                at = from[at];
            }
            List<Integer> back = new ArrayList<>();
            int stop = at;
            do {
                back.add(at);
                at = from[at];
            } while (at != stop);
            int[] cycle = new int[back.size()];
            for (int i = 0; i < cycle.length; i++) {
                cycle[i] = back.get(cycle.length - 1 - i);
            }
            return cycle;
        }

        boolean[][] openOnes() {
            boolean[][] open = new boolean[7][7];
            for (int i = 0; i < streets; i++) {
                for (int j = 0; j < streets; j++) {
                    open[i][j] = open(i, j);
                }
            }
            return open;
        }

        int[] allowedOnes() {
            int[] row = new int[7];
            for (int i = 0; i < streets; i++) {
                row[i] = allowed(i);
            }
            return row;
        }

        long[] fines(long instead) {
            long[] row = new long[7];
            for (int i = 0; i < streets; i++) {
                row[i] = instead > 0 ? instead : fine(i);
            }
            return row;
        }

        int cost(int what) {
            if (what == 0) {
                long cost = cancelled(openOnes(), allowedOnes(), fines(10_000_000_000L));
                return cost >= 10_000_000_000L ? -5 : (int) cost;
            }
            return what == 1 ? (int) cancelled(openOnes(), allowedOnes(), fines(0)) : -1;
        }

        int gate(int s) {
            if (no(s)) {
                return -1;
            }
            int[] allowed = allowedOnes();
            allowed[s] = 9999;
            return cost(1) - (int) cancelled(openOnes(), allowed, fines(0));
        }

        int fresh(int a, int b) {
            if (no(a) || no(b) || a == b) {
                return no(a) || no(b) ? -1 : -2;
            }
            boolean[][] open = openOnes();
            open[a][b] = true;
            return cost(1) - (int) cancelled(open, allowedOnes(), fines(0));
        }

        int need(int a, int b) {
            if (no(a) || no(b) || a == b) {
                return no(a) || no(b) ? -1 : -2;
            }
            boolean[][] open = openOnes();
            open[a][b] = false;
            return (int) cancelled(open, allowedOnes(), fines(0)) - cost(1);
        }

        int way(int a, int b) {
            if (no(a) || no(b)) {
                return -1;
            }
            int[] far = new int[7];
            Arrays.fill(far, -5);
            far[a] = 0;
            boolean[] closed = new boolean[7];
            for (;;) {
                int at = -1;
                for (int i = 0; i < streets; i++) {
                    if (!closed[i] && far[i] >= 0 && (at < 0 || far[i] < far[at])) {
                        at = i;
                    }
                }
                if (at < 0) {
                    return far[b];
                }
                closed[at] = true;
                for (int j = 0; j < streets; j++) {
                    if (open(at, j) && (far[j] < 0 || far[at] + step(at) < far[j])) {
                        far[j] = far[at] + step(at);
                    }
                }
            }
        }

        int bestCost;
        List<Integer> bestOrder;

        void orders(int home, int at, int set, int cost, List<Integer> order, int[][] way) {
            if (set == 0) {
                if (way[at][home] >= 0 && (bestCost < 0 || cost + way[at][home] < bestCost)) {
                    bestCost = cost + way[at][home];
                    bestOrder = new ArrayList<>(order);
                }
                return;
            }
            for (int s = 0; s < streets; s++) {
                if ((set >> s & 1) == 1 && way[at][s] >= 0) {
                    order.add(s);
                    orders(home, s, set & ~(1 << s), cost + way[at][s], order, way);
                    order.remove(order.size() - 1);
                }
            }
        }

        int errands(int s, int set, int k) {
            if (no(s) || k < -1 || k > 6) {
                return -1;
            }
            if (set < 0 || set >> streets != 0) {
                return -2;
            }
            int[][] way = new int[7][7];
            for (int i = 0; i < streets; i++) {
                for (int j = 0; j < streets; j++) {
                    way[i][j] = way(i, j);
                }
            }
            bestCost = -5;
            bestOrder = new ArrayList<>();
            orders(s, s, set, 0, new ArrayList<>(), way);
            return k == -1 ? bestCost : k < bestOrder.size() ? bestOrder.get(k) : -5;
        }

        int stand() {
            int best = -5, least = 0;
            for (int s = 0; s < streets; s++) {
                int sum = 0;
                for (int j = 0; j < streets && sum >= 0; j++) {
                    if (pays(j) > 0) {
                        sum = way(s, j) < 0 ? -1 : sum + way(s, j);
                    }
                }
                if (sum >= 0 && (best < 0 || sum < least)) {
                    best = s;
                    least = sum;
                }
            }
            return best;
        }

        long ways(int a, int b, int n) {
            if (no(a) || no(b) || n < 0 || n > 20) {
                return Long.MIN_VALUE;
            }
            long[][] rows = new long[n + 1][7];
            // Told from the end: how many there are of so many leads from each street to b.
            rows[0][b] = 1;
            for (int i = 1; i <= n; i++) {
                for (int s = 0; s < streets; s++) {
                    for (int j = 0; j < streets; j++) {
                        rows[i][s] += open(s, j) ? rows[i - 1][j] : 0;
                    }
                }
            }
            return rows[n][a];
        }

        long[] chance(int a, int b, int n) {
            if (n == 0) {
                return new long[] {a == b ? 1 : 0, 1};
            }
            int leadsThere = Integer.bitCount(of(a, 10));
            if (leadsThere == 0) {
                return chance(a, b, n - 1);
            }
            long above = 0, below = 1;
            for (int j = 0; j < streets; j++) {
                if (open(a, j)) {
                    long[] then = chance(j, b, n - 1);
                    above = above * then[1] + then[0] * below;
                    below = below * then[1];
                    long g = java.math.BigInteger.valueOf(above).gcd(java.math.BigInteger.valueOf(below)).longValue();
                    above /= g;
                    below /= g;
                }
            }
            below *= leadsThere;
            long g = java.math.BigInteger.valueOf(above).gcd(java.math.BigInteger.valueOf(below)).longValue();
            return new long[] {above / g, below / g};
        }

        long stray(int a, int b, int n, int part) {
            if (no(a) || no(b) || n < 0 || n > 6 || part < 0 || part > 1) {
                return Long.MIN_VALUE;
            }
            return chance(a, b, n)[part];
        }

        int tell(int in, int out) {
            if (in == -1) {
                tallies.clear();
                return 0;
            }
            if (in < 0 || in > 999 || out < 0 || out > 999) {
                return -2;
            }
            if (tallies.size() == 7) {
                return -4;
            }
            tallies.add(new int[] {in, out});
            return tallies.size();
        }

        // Each tally is told anew in every way, till all is even.
        int wrong(int what) {
            int off = 0, bits = 0;
            for (int[] tally : tallies) {
                off += tally[0] - tally[1];
            }
            if (what < 0 || what > 2) {
                return -1000001;
            }
            if (what == 0 || off == 0) {
                return off;
            }
            for (int i = 0; i < tallies.size(); i++) {
                for (int n = 0; n <= 999; n++) {
                    int then = what == 1 ? off - tallies.get(i)[0] + n : off + tallies.get(i)[1] - n;
                    bits |= then == 0 ? 1 << i : 0;
                }
            }
            return bits;
        }

        int act(int s, int act, int x) {
            ran.clear();
            if (no(s) || act < 0 || act > 2) {
                return 0;
            }
            Kind0[] kinds = {new Kind0(), new Kind1(), new Kind2(), new Kind3(), new Kind4(), new Kind5(), new Kind6()};
            Kind0 one = kinds[kind[s]];
            one.i = s;
            one.v = v[s];
            one.ran = ran;
            return act == 0 ? one.counts(x) : act == 1 ? one.pays(x) : one.tells(x);
        }

        int trace(int i) {
            return i < 0 || i >= Math.min(20, ran.size()) ? -1 : ran.get(i);
        }

        int as(int s, int k) {
            if (no(s) || k < 0 || k > 6) {
                return -1;
            }
            for (int at = kind[s]; at >= 0; at = UP[at]) {
                if (at == k) {
                    return v[s];
                }
            }
            return -6;
        }

        int count(int what) {
            return what < 0 || what > 4 ? -1
                : new int[] {streets, towns, tallies.size(), tape.length(), ran.size()}[what];
        }
    }

    // ---- the kinds, as classes

    private static class Kind0 {
        int i, v;
        List<Integer> ran;
        int counts(int x) { ran.add(1); return x + i; }
        int pays(int x) { ran.add(2); return counts(x) - v; }
        int tells(int x) { ran.add(3); return pays(x) * 2; }
    }

    private static class Kind1 extends Kind0 {
        @Override int counts(int x) { ran.add(11); return super.counts(x * 3); }
    }

    private static class Kind2 extends Kind0 {
        @Override int pays(int x) { ran.add(21); return -super.pays(x); }
    }

    private static class Kind3 extends Kind0 {
        @Override int tells(int x) { ran.add(31); return super.tells(x) ^ 7; }
    }

    private static class Kind4 extends Kind1 {
        @Override int tells(int x) { ran.add(41); return super.tells(x - 1) + counts(2); }
    }

    private static class Kind5 extends Kind2 {
        @Override int counts(int x) { ran.add(51); return super.counts(x) ^ i; }
    }

    private static class Kind6 extends Kind3 {
        @Override int pays(int x) { ran.add(61); return super.pays(x) + v; }
    }
}

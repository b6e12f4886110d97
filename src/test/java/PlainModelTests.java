import java.util.ArrayList;
import java.util.Arrays;
import java.util.List;
import java.util.Random;
import java.util.TreeMap;
import java.util.TreeSet;

/** Runs of calls by lot, each answered by the class and by a second, plain model of the document. */
public final class PlainModelTests {
    private static final int RUNS = 1000, CALLS = 512, BAD = -2, STATE = -3, FULL = -4, NONE = -1;
    private static final int HEAVY = 40;

    public static void main(String[] args) {
        int wrong = 0;
        for (int run = 0; run < RUNS && wrong < 10; run++) {
            wrong += compare(run);
        }
        System.out.println(wrong == 0 ? "class and model agree" : wrong + " runs differ");
        if (wrong != 0) {
            System.exit(1);
        }
    }

    private static int compare(int run) {
        Random lot = new Random(run);
        ByTheFlame x = new ByTheFlame();
        Model m = new Model();
        List<String> log = new ArrayList<>();
        int heavy = 0;
        // what an object answers behind its 512th call is free
        while (log.size() < CALLS) {
            int which = lot.nextInt(38);
            if (which >= 8 && which < 13 && heavy++ > HEAVY) {
                which = 0;
            }
            if (which == 37) {
                which = 28;
            }
            int[] a = new int[6];
            for (int i = 0; i < a.length; i++) {
                a[i] = number(lot);
            }
            likely(which, a, lot);
            List<int[]> steps = new ArrayList<>();
            if (which == 28) {
                steps = feeding(lot);
            } else {
                if (which >= 8 && which < 13 && lot.nextInt(4) > 0) {
                    fresh(steps, m, lot);
                    a[0] = lot.nextInt(1 << m.wicks.size());
                }
                steps.add(new int[] {which, a[0], a[1], a[2], a[3], a[4]});
            }
            for (int[] s : steps.subList(0, Math.min(steps.size(), CALLS - log.size()))) {
                aim(s, m, lot);
                long got = answer(x, s);
                long want = m.answer(s);
                log.add(Arrays.toString(s) + " -> " + got);
                if (got != want) {
                    System.out.println("run " + run + ": " + log.get(log.size() - 1) + ", the model says " + want);
                    System.out.println("  model: " + m);
                    System.out.println("  behind: " + log.subList(Math.max(0, log.size() - 25), log.size()));
                    return 1;
                }
            }
        }
        return 0;
    }

    private static int number(Random lot) {
        switch (lot.nextInt(12)) {
            case 0: return lot.nextInt();
            case 1: return lot.nextBoolean() ? Integer.MIN_VALUE : Integer.MAX_VALUE;
            case 2: return -1 - lot.nextInt(3);
            case 3: return lot.nextInt(450);
            case 4: return lot.nextInt(12000);
            case 5: return lot.nextInt(100);
            default: return lot.nextInt(6);
        }
    }

    /** All wicks get parts and are put out, so that spans can be told by any of them. */
    private static void fresh(List<int[]> steps, Model m, Random lot) {
        int most = lot.nextBoolean() ? 99 : 14;
        for (int w = 0; w < m.wicks.size(); w++) {
            steps.add(new int[] {1, 0, w, 1 + lot.nextInt(most), 0, 0});
            steps.add(new int[] {1, 1, w, 0, 0, 0});
            steps.add(new int[] {1, 2, w, lot.nextInt(lot.nextInt(4) == 0 ? 1000 : 20), 0, 0});
        }
        steps.add(new int[] {1, 4, 0, lot.nextInt(10), 0, 0});
    }

    /** A span that is asked of tell() becomes, mostly, one that can be told. */
    private static void aim(int[] s, Model m, Random lot) {
        if (s[0] != 9 || !m.fits(s[1]) || lot.nextInt(4) == 0) {
            return;
        }
        List<Integer> told = new ArrayList<>(m.search(s[1], m.damp, false).least.keySet());
        if (!told.isEmpty()) {
            s[2] = told.get(lot.nextInt(told.size()));
        }
    }

    /** Makes numbers that fit more likely than they would be by lot alone. */
    private static void likely(int which, int[] a, Random lot) {
        if (lot.nextInt(8) == 0) {
            return;
        }
        switch (which) {
            case 0: put(a, lot.nextInt(6), lot.nextInt(10), 1 + lot.nextInt(lot.nextBoolean() ? 99 : 12)); break;
            case 1: put(a, lot.nextInt(6), lot.nextInt(4), lot.nextInt(lot.nextBoolean() ? 3 : 100)); break;
            case 2: put(a, lot.nextInt(4), lot.nextInt(9), 0); break;
            case 5: put(a, lot.nextInt(4), 1 + lot.nextInt(2), 0); break;
            case 6: put(a, lot.nextInt(lot.nextBoolean() ? 5 : 40), 0, 0); break;
            case 7: put(a, lot.nextInt(4), 0, 0); break;
            case 8: put(a, lot.nextInt(16), lot.nextInt(13), 0); break;
            case 9: put(a, lot.nextInt(16), 1 + lot.nextInt(120), lot.nextInt(3)); break;
            case 10: put(a, lot.nextInt(16), 1 + lot.nextInt(100), 0); break;
            case 11: put(a, lot.nextInt(16), lot.nextInt(2), 0); break;
            case 12: put(a, lot.nextInt(16), 0, 0); break;
            case 13: put(a, lot.nextInt(4), 0, 0); break;
            case 14: put(a, lot.nextInt(120), 0, 0); break;
            case 15: put(a, lot.nextInt(4), 1 + lot.nextInt(12), 1 + lot.nextInt(4)); break;
            case 16: put(a, lot.nextInt(4), 1 + lot.nextInt(12), lot.nextInt(2)); break;
            case 17: put(a, lot.nextInt(4), 0, 0); break;
            case 18: put(a, lot.nextInt(), 0, 0); break;
            case 19: put(a, lot.nextInt(), 1 + lot.nextInt(20), lot.nextInt(60)); a[3] = lot.nextInt(2); break;
            case 22: put(a, lot.nextInt(8), 0, 0); break;
            case 23: put(a, lot.nextInt(4), lot.nextInt(4) - 1, 3 * lot.nextInt(5)); break;
            case 24: case 30: case 31: case 32: case 33: case 34: case 35: case 36:
                put(a, lot.nextInt(4), lot.nextInt(12), lot.nextInt(lot.nextBoolean() ? 4 : 14)); break;
            case 25: put(a, lot.nextInt(4), lot.nextInt(6), lot.nextInt(4)); a[3] = lot.nextInt(6); a[4] = lot.nextInt(8); break;
            case 26: put(a, lot.nextInt(4), lot.nextInt(3), lot.nextInt(6)); a[3] = lot.nextInt(6); break;
            case 27: put(a, lot.nextInt(4), lot.nextInt(6), 0); break;
            default: break;
        }
    }

    private static void put(int[] a, int v0, int v1, int v2) {
        a[0] = v0;
        a[1] = v1;
        a[2] = v2;
    }

    /** A text fed byte by byte, read, and, perhaps, forced. */
    private static List<int[]> feeding(Random lot) {
        StringBuilder text = new StringBuilder();
        text.append("costs ").append(expression(lot, 3)).append(";worth ").append(expression(lot, 3));
        text.append("; drift ").append(expression(lot, 3)).append(";");
        if (lot.nextInt(3) == 0) {
            String bytes = "()-+*<=;not and 1 90000 x@\n\tparts";
            for (int i = lot.nextInt(3); i >= 0; i--) {
                int at = lot.nextInt(text.length());
                int from = lot.nextInt(bytes.length());
                String piece = bytes.substring(from, Math.min(bytes.length(), from + 1 + lot.nextInt(4)));
                if (lot.nextBoolean()) {
                    text.insert(at, piece);
                } else {
                    text.deleteCharAt(at);
                }
            }
        }
        List<int[]> steps = new ArrayList<>();
        for (int i = 0; i < text.length(); i++) {
            steps.add(new int[] {3, text.charAt(i), 0, 0, 0, 0});
        }
        steps.add(new int[] {4, 0, 0, 0, 0, 0});
        steps.add(new int[] {29, lot.nextInt(6), 0, 0, 0, 0});
        return steps;
    }

    private static String expression(Random lot, int depth) {
        String[] names = {"parts", "damp", "lit", "burnt", "wick", "span"};
        String[] joins = {"+", "-", "*", "<", "=", " and ", " or ", " + ", "*"};
        switch (depth == 0 ? lot.nextInt(2) : lot.nextInt(7)) {
            case 0: return Integer.toString(lot.nextInt(lot.nextInt(8) == 0 ? 11000 : 12));
            case 1: return names[lot.nextInt(6)];
            case 2: return "(" + expression(lot, depth - 1) + ")";
            case 3: return "-" + expression(lot, depth - 1);
            case 4: return "not " + expression(lot, depth - 1);
            default: return expression(lot, depth - 1) + joins[lot.nextInt(joins.length)] + expression(lot, depth - 1);
        }
    }

    private static long answer(ByTheFlame x, int[] s) {
        switch (s[0]) {
            case 0: return x.wick(s[1], s[2], s[3]);
            case 1: return x.set(s[1], s[2], s[3]);
            case 2: return x.told(s[1], s[2]);
            case 3: return x.feed(s[1]);
            case 4: return x.text();
            case 29: return x.force(s[1]);
            case 5: return x.light(s[1], s[2]);
            case 6: return x.burn(s[1]);
            case 7: return x.out(s[1]);
            case 8: return x.spans(s[1], s[2]);
            case 9: return x.tell(s[1], s[2], s[3]);
            case 10: return x.between(s[1], s[2]);
            case 11: return x.worth(s[1], s[2]);
            case 12: return x.sure(s[1]);
            case 13: return x.cheat(s[1]);
            case 14: return x.which(s[1]);
            case 15: return x.copies(s[1], s[2], s[3]);
            case 16: return x.best(s[1], s[2], s[3]);
            case 17: return x.judge(s[1]);
            case 18: return x.drawn(s[1]);
            case 19: return x.chance(s[1], s[2], s[3], s[4]);
            case 20: return x.image();
            case 21: return x.back();
            case 22: return x.count(s[1]);
            case 23: return x.sheet(s[1], s[2], s[3]);
            case 25: return x.copy(s[1], s[2], s[3], s[4], s[5]);
            case 26: return x.wicks(s[1], s[2], s[3], s[4]);
            case 27: return x.taken(s[1], s[2]);
            default: return x.cell(s[1], s[2], s[3]);
        }
    }

    private static final class Wick {
        int kind, number, parts, lit, burnt;

        Wick same() {
            Wick w = new Wick();
            w.kind = kind;
            w.number = number;
            w.parts = parts;
            w.lit = lit;
            w.burnt = burnt;
            return w;
        }

        int rawFast(int asKind, int l, int d) {
            switch (asKind) {
                case 0: return l;
                case 1: return rawFast(0, l, d) + l;
                case 2: return rawFast(0, l, d) - (d > number ? 1 : 0);
                case 3: return rawFast(1, l, d) + (l == 2 ? number % 3 : 0);
                case 4: return l == 1 ? 1 : rawFast(2, l, d);
                default: return rawFast(1, l, d) - d / 2;
            }
        }

        int fast(int l, int d) {
            return l == 0 ? 0 : Math.max(1, rawFast(kind, l, d));
        }

        int rawAsh(int asKind, int b) {
            switch (asKind) {
                case 0: return b;
                case 1: return rawAsh(0, b) / 2;
                case 2: return rawAsh(0, b) + number;
                case 3: return rawAsh(1, b) - number;
                case 4: return 2 * rawAsh(2, b);
                default: return rawAsh(1, b) + b / 3;
            }
        }

        /** One moment: whether it goes out. */
        boolean moment(int damp) {
            if (lit == 0) {
                return false;
            }
            for (int i = fast(lit, damp); i > 0 && parts > 0; i--) {
                parts--;
                burnt = Math.min(999, burnt + 1);
            }
            if (parts == 0) {
                lit = 0;
                return true;
            }
            return false;
        }
    }

    private static List<Wick> same(List<Wick> wicks) {
        List<Wick> all = new ArrayList<>();
        for (Wick w : wicks) {
            all.add(w.same());
        }
        return all;
    }

    /** A text as tokens, evaluated by going over them anew each time. */
    private static final class Words {
        final List<String> tokens = new ArrayList<>();
        final List<Integer> places = new ArrayList<>();
        int at = 0, fault = -1;
        int[] names = new int[6];

        Words(String text) {
            int i = 0;
            while (i < text.length()) {
                String rest = text.substring(i);
                String token = rest.replaceFirst("(?s)^([a-z]+|[0-9]+|.).*$", "$1");
                if (!token.equals(" ") && !token.equals("\n")) {
                    tokens.add(token);
                    places.add(i);
                }
                i += token.length();
            }
            tokens.add("");
            places.add(text.length());
        }

        static final class Fault extends RuntimeException {
            private static final long serialVersionUID = 1L;
        }

        String peek() {
            return tokens.get(at);
        }

        Fault fault() {
            fault = places.get(at);
            return new Fault();
        }

        void expect(String token) {
            if (!peek().equals(token)) {
                throw fault();
            }
            at++;
        }

        /** The three values by the names now, or the fault. */
        int[] all() {
            at = 0;
            int[] values = new int[3];
            String[] keys = {"costs", "worth", "drift"};
            try {
                for (int i = 0; i < 3; i++) {
                    expect(keys[i]);
                    values[i] = or(0);
                    expect(";");
                }
                if (!peek().isEmpty()) {
                    throw fault();
                }
            } catch (Fault f) {
                return null;
            }
            return values;
        }

        int or(int open) {
            int v = and(open);
            while (peek().equals("or")) {
                at++;
                int u = and(open);
                v = v != 0 || u != 0 ? 1 : 0;
            }
            return v;
        }

        int and(int open) {
            int v = not(open);
            while (peek().equals("and")) {
                at++;
                int u = not(open);
                v = v != 0 && u != 0 ? 1 : 0;
            }
            return v;
        }

        int not(int open) {
            if (peek().equals("not")) {
                if (open == 5) {
                    throw fault();
                }
                at++;
                return not(open + 1) == 0 ? 1 : 0;
            }
            int v = sum(open);
            if (peek().equals("<")) {
                at++;
                return v < sum(open) ? 1 : 0;
            }
            if (peek().equals("=")) {
                at++;
                return v == sum(open) ? 1 : 0;
            }
            return v;
        }

        int sum(int open) {
            int v = term(open);
            while (peek().equals("+") || peek().equals("-")) {
                boolean plus = peek().equals("+");
                at++;
                int u = term(open);
                v = plus ? v + u : v - u;
            }
            return v;
        }

        int term(int open) {
            int v = one(open);
            while (peek().equals("*")) {
                at++;
                v *= one(open);
            }
            return v;
        }

        int one(int open) {
            String token = peek();
            int name = Arrays.asList("parts", "damp", "lit", "burnt", "wick", "span").indexOf(token);
            if (name >= 0) {
                at++;
                return names[name];
            }
            if (token.matches("[0-9]{1,4}")) {
                at++;
                return Integer.parseInt(token);
            }
            if (open == 5 || !token.equals("-") && !token.equals("(")) {
                throw fault();
            }
            at++;
            if (token.equals("-")) {
                return -one(open + 1);
            }
            int v = or(open + 1);
            expect(")");
            return v;
        }
    }

    /** What a way through all tellings finds. */
    private static final class Found {
        final TreeMap<Integer, Integer> least = new TreeMap<>();
        final TreeMap<Integer, Integer> cheapest = new TreeMap<>();
        final TreeMap<Integer, TreeMap<Integer, Integer>> firstByEnds = new TreeMap<>();
        final TreeSet<Integer> apart = new TreeSet<>();
    }

    private static final class Model {
        List<Wick> wicks = new ArrayList<>();
        int damp, moment, rule;
        List<Wick> keptWicks;
        int keptDamp, keptMoment, keptRule;
        StringBuilder tape = new StringBuilder();
        List<Words> texts = new ArrayList<>(List.of(new Words("costs 1 ; worth span ; drift 1 ;")));
        int[][] sheets = new int[4][];
        int[] sorts = new int[4];

        @Override public String toString() {
            StringBuilder s = new StringBuilder("damp " + damp + " rule " + texts.get(rule).tokens + " wicks");
            for (Wick w : wicks) {
                s.append(" (").append(w.kind).append(' ').append(w.number).append(' ').append(w.parts).append(' ')
                        .append(w.lit).append(' ').append(w.burnt).append(')');
            }
            return s.toString();
        }

        boolean has(int w) {
            return w >= 0 && w < wicks.size();
        }

        static boolean in(int v, int a, int b) {
            return a <= v && v <= b;
        }

        int say(int section, int most, int... names) {
            Words words = texts.get(rule);
            words.names = names;
            return Math.max(0, Math.min(most, words.all()[section]));
        }

        long answer(int[] s) {
            switch (s[0]) {
                case 0: return wick(s[1], s[2], s[3]);
                case 1: return set(s[1], s[2], s[3]);
                case 2: return told(s[1], s[2]);
                case 3: return feed(s[1]);
                case 4: return text();
                case 29: return force(s[1]);
                case 5: return light(wicks, s[1], s[2]);
                case 6: return burn(s[1]);
                case 7: return out(s[1]);
                case 8: return spans(s[1], s[2]);
                case 9: return tell(s[1], s[2], s[3]);
                case 10: return between(s[1], s[2]);
                case 11: return worth(s[1], s[2]);
                case 12: return sure(s[1]);
                case 13: return cheat(s[1]);
                case 14: return which(s[1]);
                case 15: return copies(s[1], s[2], s[3]);
                case 16: return best(s[1], s[2], s[3]);
                case 17: return judge(s[1]);
                case 18: return drawn(s[1]);
                case 19: return chance(s[1], s[2], s[3], s[4]);
                case 20: return image();
                case 21: return back();
                case 22: return count(s[1]);
                case 23: return sheet(s[1], s[2], s[3]);
                case 25: return copy(s[1], s[2], s[3], s[4], s[5]);
                case 26: return bySheet(s[1], s[2], s[3], s[4]);
                case 27: return taken(s[1], s[2]);
                default: return cell(s[1], s[2], s[3]);
            }
        }

        int wick(int kind, int number, int parts) {
            if (!in(kind, 0, 5) || !in(number, 0, 9) || !in(parts, 1, 99)) {
                return BAD;
            }
            if (wicks.size() == 4) {
                return FULL;
            }
            Wick w = new Wick();
            w.kind = kind;
            w.number = number;
            w.parts = parts;
            wicks.add(w);
            return wicks.size() - 1;
        }

        int set(int what, int of, int v) {
            int[] most = {99, 2, 999, 9, 9, 9999};
            if (!in(what, 0, 5) || !in(v, 0, most[what]) || what < 4 && !has(of)) {
                return BAD;
            }
            int was = what == 4 ? damp : what == 5 ? moment : told(of, what);
            if (what == 4) {
                damp = v;
            } else if (what == 5) {
                moment = v;
            } else if (what == 0) {
                wicks.get(of).parts = v;
                wicks.get(of).lit = v == 0 ? 0 : wicks.get(of).lit;
            } else if (what == 1) {
                if (v > 0 && wicks.get(of).parts == 0) {
                    return STATE;
                }
                wicks.get(of).lit = v;
            } else if (what == 2) {
                wicks.get(of).burnt = v;
            } else {
                wicks.get(of).number = v;
            }
            return was;
        }

        int told(int of, int what) {
            if (!has(of) || !in(what, 0, 8)) {
                return BAD;
            }
            Wick w = wicks.get(of);
            int[] all = {w.parts, w.lit, w.burnt, w.number, w.kind, w.fast(w.lit, damp),
                Math.max(0, w.rawAsh(w.kind, w.burnt)), w.fast(1, damp), w.fast(2, damp)};
            return all[what];
        }

        int feed(int letter) {
            if (!in(letter, 0, 255)) {
                return BAD;
            }
            if (tape.length() == 160) {
                return FULL;
            }
            tape.append((char) letter);
            return tape.length();
        }

        int text() {
            if (texts.size() == 6) {
                return FULL;
            }
            Words words = new Words(tape.toString());
            tape.setLength(0);
            if (words.all() == null) {
                return -100 - words.fault;
            }
            texts.add(words);
            return texts.size() - 1;
        }

        int force(int text) {
            if (!in(text, 0, texts.size() - 1)) {
                return BAD;
            }
            int was = rule;
            rule = text;
            return was;
        }

        static int light(List<Wick> of, int w, int ends) {
            if (w < 0 || w >= of.size() || !in(ends, 1, 2)) {
                return BAD;
            }
            if (of.get(w).parts == 0 || 2 - of.get(w).lit < ends) {
                return STATE;
            }
            of.get(w).lit += ends;
            return of.get(w).lit;
        }

        static int pass(List<Wick> of, int n, int damp) {
            int gone = 0;
            for (int i = 0; i < n; i++) {
                for (Wick w : of) {
                    gone += w.moment(damp) ? 1 : 0;
                }
            }
            return gone;
        }

        int burn(int n) {
            if (!in(n, 0, 250)) {
                return BAD;
            }
            moment = Math.min(9999, moment + n);
            return pass(wicks, n, damp);
        }

        static int untilOut(Wick w, int damp) {
            Wick s = w.same();
            for (int n = 1; n <= 100; n++) {
                if (s.moment(damp)) {
                    return n;
                }
            }
            return NONE;
        }

        int out(int w) {
            return has(w) ? untilOut(wicks.get(w), damp) : BAD;
        }

        boolean fits(int some) {
            if (some < 0 || some >= 1 << wicks.size()) {
                return false;
            }
            for (int w = 0; w < wicks.size(); w++) {
                if ((some >> w & 1) == 1 && (wicks.get(w).parts == 0 || wicks.get(w).lit > 0)) {
                    return false;
                }
            }
            return true;
        }

        Found search(int some, int inDamp, boolean priced) {
            Found found = new Found();
            List<Wick> start = same(wicks);
            for (int w = 0; w < start.size(); w++) {
                start.get(w).lit = 0;
            }
            lightings(found, start, some, 0, new int[] {0, 0, 0, -1}, inDamp, priced, new ArrayList<>());
            return found;
        }

        /** now: time, ends, cost, first lighting (-1: not yet lit). */
        void lightings(Found f, List<Wick> at, int some, int code, int[] now, int d, boolean priced, List<Integer> told) {
            int ways = (int) Math.pow(3, at.size());
            for (int way = 0; way < ways; way++) {
                List<Wick> next = same(at);
                int ends = now[1];
                int cost = now[2];
                int first = 0;
                int rest = way;
                boolean fine = true;
                for (int w = 0; w < next.size() && fine; w++) {
                    int more = rest % 3;
                    rest /= 3;
                    Wick wick = next.get(w);
                    fine = more == 0 || (some >> w & 1) == 1 && wick.parts > 0 && wick.lit + more <= 2;
                    for (int e = 0; e < more && fine; e++) {
                        cost += priced ? say(0, 99, wick.parts, d, wick.lit, wick.burnt, w, now[0]) : 0;
                        wick.lit++;
                        ends++;
                    }
                    first = first * 10 + more;
                }
                if (fine) {
                    burnOn(f, next, some, new int[] {now[0], ends, cost, now[3] < 0 ? first : now[3]}, d, priced, told);
                }
            }
        }

        void burnOn(Found f, List<Wick> at, int some, int[] now, int d, boolean priced, List<Integer> told) {
            boolean any = false;
            boolean left = false;
            for (int w = 0; w < at.size(); w++) {
                // the others are not burning
                if ((some >> w & 1) == 0) {
                    at.get(w).lit = 0;
                }
                any |= at.get(w).lit > 0;
            }
            if (!any) {
                return;
            }
            int time = now[0];
            do {
                time++;
            } while (pass(at, 1, d) == 0);
            f.least.merge(time, now[1], Math::min);
            f.cheapest.merge(time, now[2], Math::min);
            f.firstByEnds.computeIfAbsent(time, t -> new TreeMap<>()).merge(now[1], now[3], Math::min);
            f.apart.add(time);
            for (int t : told) {
                f.apart.add(time - t);
            }
            for (int w = 0; w < at.size(); w++) {
                left |= (some >> w & 1) == 1 && at.get(w).parts > 0;
            }
            if (left) {
                List<Integer> more = new ArrayList<>(told);
                more.add(time);
                lightings(f, at, some, 0, new int[] {time, now[1], now[2], now[3]}, d, priced, more);
            }
        }

        int spans(int some, int block) {
            if (!in(block, 0, 12) || !fits(some)) {
                return BAD;
            }
            int bits = 0;
            for (int t : search(some, damp, false).least.keySet()) {
                bits |= t / 31 == block ? 1 << t % 31 : 0;
            }
            return bits;
        }

        int tell(int some, int span, int what) {
            if (!in(span, 1, 400) || !in(what, 0, 2) || !fits(some)) {
                return BAD;
            }
            Found f = search(some, damp, what == 1);
            if (!f.least.containsKey(span)) {
                return NONE;
            }
            return what == 0 ? f.least.get(span) : what == 1 ? f.cheapest.get(span)
                    : f.firstByEnds.get(span).firstEntry().getValue();
        }

        int between(int some, int span) {
            if (!in(span, 1, 400) || !fits(some)) {
                return BAD;
            }
            return search(some, damp, false).apart.contains(span) ? 1 : 0;
        }

        int worth(int some, int what) {
            if (!in(what, 0, 1) || !fits(some)) {
                return BAD;
            }
            int best = NONE;
            int most = NONE;
            for (int t : search(some, damp, false).least.keySet()) {
                int v = say(1, 999, 0, damp, 0, 0, 0, t);
                if (v > most) {
                    most = v;
                    best = t;
                }
            }
            return what == 0 ? best : most;
        }

        long sure(int some) {
            if (!fits(some)) {
                return -4611686018427387904L;
            }
            TreeSet<Integer> all = new TreeSet<>();
            for (int t = 1; t <= 60; t++) {
                all.add(t);
            }
            for (int d = 0; d <= 9; d++) {
                all.retainAll(search(some, d, false).least.keySet());
            }
            long bits = 0;
            for (int t : all) {
                bits |= 1L << t;
            }
            return bits;
        }

        int cheat(int w) {
            if (!has(w) || wicks.get(w).parts == 0) {
                return BAD;
            }
            Wick s = wicks.get(w).same();
            s.lit = 1;
            for (int d = 0; d <= 9; d++) {
                if (untilOut(s, d) > untilOut(s, 0)) {
                    return d;
                }
            }
            return NONE;
        }

        int which(int ash) {
            if (!in(ash, 0, 9999)) {
                return BAD;
            }
            int bits = 0;
            for (int i = 0; i < wicks.size(); i++) {
                Wick s = wicks.get(i).same();
                s.lit = 1;
                if (s.parts > 0) {
                    pass(List.of(s), 100, 0);
                }
                bits |= Math.max(0, s.rawAsh(s.kind, s.burnt)) == ash ? 1 << i : 0;
            }
            return bits;
        }

        int copies(int w, int n, int branch) {
            if (!has(w) || !in(n, 1, 12) || !in(branch, 1, 4)) {
                return BAD;
            }
            int most = 0;
            for (int k = 1; k <= n; k++) {
                most = Math.max(most, off(w, k, branch));
            }
            return most;
        }

        int behind(int k, int branch) {
            return k == 0 ? 0 : 1 + behind((k - 1) / branch, branch);
        }

        int off(int w, int k, int branch) {
            return k == 0 ? 0 : off(w, (k - 1) / branch, branch)
                    + say(2, 99, wicks.get(w).parts, damp, 0, 0, k, behind(k, branch));
        }

        int best(int w, int n, int what) {
            if (!has(w) || !in(n, 1, 12) || !in(what, 0, 1)) {
                return BAD;
            }
            int best = 4;
            for (int b = 3; b >= 1; b--) {
                best = copies(w, n, b) <= copies(w, n, best) ? b : best;
            }
            return what == 0 ? best : copies(w, n, best);
        }

        int judge(int sheet) {
            if (!in(sheet, 0, 3)) {
                return BAD;
            }
            int[] row = sheets[sheet];
            if (row == null) {
                return -11;
            }
            if (row.length % 3 != 0) {
                return BAD;
            }
            List<Wick> then = same(wicks);
            int time = 0;
            for (int i = 0; i < row.length; i += 3) {
                if (!in(row[i], 0, 250) || row[i] < time || !has(row[i + 1]) || !in(row[i + 2], 1, 2)) {
                    return i / 3;
                }
                pass(then, row[i] - time, damp);
                time = row[i];
                if (light(then, row[i + 1], row[i + 2]) < 0) {
                    return i / 3;
                }
            }
            return NONE;
        }

        int drawn(int seed) {
            int z = seed;
            List<Wick> then = same(wicks);
            for (Wick w : then) {
                z = z * 1103515245 + 12345;
                if (w.parts > 0 && w.lit == 0) {
                    w.lit = (z >>> 11) % 3;
                }
            }
            int last = 0;
            for (int n = 1; n <= 120; n++) {
                last = pass(then, 1, damp) > 0 ? n : last;
            }
            return last;
        }

        long chance(int seed, int n, int span, int part) {
            if (!in(n, 1, 20) || !in(span, 0, 250) || !in(part, 0, 1)) {
                return -4611686018427387904L;
            }
            int a = 0;
            for (int i = 0; i < n; i++) {
                a += drawn(seed + i) == span ? 1 : 0;
            }
            int g = n;
            for (int u = a, v = n; u != 0;) {
                int r = v % u;
                v = u;
                u = r;
                g = v;
            }
            return part == 0 ? a / g : n / g;
        }

        int image() {
            keptWicks = same(wicks);
            keptDamp = damp;
            keptMoment = moment;
            keptRule = rule;
            return wicks.size();
        }

        int back() {
            if (keptWicks == null) {
                return STATE;
            }
            wicks = same(keptWicks);
            damp = keptDamp;
            moment = keptMoment;
            rule = keptRule;
            return wicks.size();
        }

        int count(int what) {
            int lit = 0;
            int parts = 0;
            for (Wick w : wicks) {
                lit += w.lit > 0 ? 1 : 0;
                parts += w.parts;
            }
            int[] all = {wicks.size(), lit, damp, moment, texts.size(), tape.length(), rule, parts};
            return in(what, 0, 7) ? all[what] : BAD;
        }

        int sheet(int sheet, int sort, int n) {
            if (!in(sheet, 0, 3) || !in(sort, -1, 2) || sort >= 0 && n > 40) {
                return BAD;
            }
            if (sort >= 0 && n < 0) {
                return -14;
            }
            sheets[sheet] = sort < 0 ? null : new int[n];
            sorts[sheet] = sort;
            return 1;
        }

        int cell(int sheet, int i, int v) {
            if (!in(sheet, 0, 3)) {
                return BAD;
            }
            if (sheets[sheet] == null) {
                return -11;
            }
            if (i < 0 || i >= sheets[sheet].length) {
                return -12;
            }
            int unused = sorts[sheet] == 0 ? 24 : sorts[sheet] == 1 ? 16 : 0;
            sheets[sheet][i] = v << unused >> unused;
            return 1;
        }

        int copy(int sheet, int i, int other, int j, int n) {
            if (!in(sheet, 0, 3) || !in(other, 0, 3)) {
                return BAD;
            }
            if (sheets[sheet] == null || sheets[other] == null) {
                return -11;
            }
            if (sorts[sheet] != sorts[other]) {
                return -13;
            }
            if (i < 0 || j < 0 || n < 0 || (long) i + n > sheets[sheet].length || (long) j + n > sheets[other].length) {
                return -12;
            }
            int[] was = sheets[sheet].clone();
            for (int k = 0; k < n; k++) {
                sheets[other][j + k] = was[i + k];
            }
            return n;
        }

        int bySheet(int sheet, int sort, int from, int n) {
            if (!in(sheet, 0, 3) || !in(sort, 0, 2) || !in(n, 0, 5)) {
                return BAD;
            }
            if (sheets[sheet] == null) {
                return -11;
            }
            if (sorts[sheet] != sort) {
                return -13;
            }
            int came = 0;
            for (long at = from; at < from + 3L * n; at += 3) {
                if (at < 0 || at + 2 >= sheets[sheet].length) {
                    return -12;
                }
                int i = (int) at;
                came += wick(sheets[sheet][i], sheets[sheet][i + 1], sheets[sheet][i + 2]) >= 0 ? 1 : 0;
            }
            return came;
        }

        int taken(int w, int k) {
            if (!in(k, 0, 5)) {
                return BAD;
            }
            if (!has(w)) {
                return -11;
            }
            String[] lines = {"0", "10", "20", "310", "420", "510"};
            return lines[wicks.get(w).kind].indexOf('0' + k) >= 0 ? wicks.get(w).number : -13;
        }
    }
}

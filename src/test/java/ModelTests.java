import java.math.BigInteger;
import java.util.ArrayList;
import java.util.List;
import java.util.NoSuchElementException;
import java.util.Random;
import java.util.TreeMap;

/** Drawn runs of calls, side by side with a slow and plain second reading of the document. */
public final class ModelTests {
    private static final int RUNS = 400;
    private static final int CALLS = 512;

    private static final class Fault extends Exception {
        private static final long serialVersionUID = 1L;
        final int kind;
        final int place;

        Fault(int kind, int place) {
            this.kind = kind;
            this.place = place;
        }
    }

    private interface Value {
        int of(TreeMap<String, Integer> given);
    }

    private interface Call {
        long answer();
    }

    private static final class Token {
        final String text;
        final int place;

        Token(String text, int place) {
            this.text = text;
            this.place = place;
        }
    }

    private static final class Parser {
        final List<Token> tokens = new ArrayList<>();
        int at = 0;

        Parser(String text) {
            int i = 0;
            while (i < text.length()) {
                int from = i;
                char c = text.charAt(i);
                if (c == ' ') {
                    i++;
                    continue;
                }
                String same = c >= '0' && c <= '9' ? "[0-9]*" : c >= 'a' && c <= 'z' ? "[a-z]*" : ".";
                i++;
                while (!same.equals(".") && i < text.length() && text.substring(from, i + 1).matches(same)) {
                    i++;
                }
                tokens.add(new Token(text.substring(from, i), from));
            }
            tokens.add(new Token("", text.length()));
        }

        Token now() {
            return tokens.get(at);
        }

        boolean is(String text) {
            return now().text.equals(text);
        }

        boolean atEnd() {
            return is("");
        }

        void need(String text) throws Fault {
            if (!is(text)) {
                throw new Fault(1, now().place);
            }
            at++;
        }

        int number(int least, int most) throws Fault {
            if (!now().text.matches("[0-9]+")) {
                throw new Fault(1, now().place);
            }
            BigInteger n = new BigInteger(now().text);
            if (n.compareTo(BigInteger.valueOf(least)) < 0 || n.compareTo(BigInteger.valueOf(most)) > 0) {
                throw new Fault(2, now().place);
            }
            at++;
            return n.intValue();
        }
    }

    private static final class State {
        int day;
        int jug;
        int[] grief = new int[7];
        int[] thirst = new int[7];
        boolean[] told = new boolean[7];
        List<int[]> tales = new ArrayList<>();

        State copy() {
            State s = new State();
            s.day = day;
            s.jug = jug;
            s.grief = grief.clone();
            s.thirst = thirst.clone();
            s.told = told.clone();
            s.tales = new ArrayList<>(tales);
            return s;
        }
    }

    private static final class Saved {
        State state;
        List<State> past;
    }

    private static final class Model {
        StringBuilder tape = new StringBuilder();
        List<int[]> persons = new ArrayList<>();
        List<int[]> jokes = new ArrayList<>();
        List<int[]> streets = new ArrayList<>();
        int firstJug = 20;
        int drink = 2;
        Value law;
        TreeMap<Integer, Integer> book = new TreeMap<>();
        State s = new State();
        List<State> past = new ArrayList<>();
        List<Saved> images = new ArrayList<>();
        int fault = -1;
        int refused;
        int noSuch;
        int wrong;
        int begun;
        int done;
        int refusing;

        Model() {
            s.jug = 20;
        }

        void need(boolean good) {
            if (!good) {
                wrong++;
                throw new IllegalArgumentException();
            }
        }

        void in(int value, int least, int most) {
            need(value >= least && value <= most);
        }

        void has(List<int[]> list, int i) {
            if (i < 0 || i >= list.size()) {
                noSuch++;
                throw new NoSuchElementException();
            }
        }

        int feed(int... numbers) {
            if (tape.length() + 20 > 600) {
                return -1;
            }
            for (int n : numbers) {
                for (int i = 3; i >= 0; i--) {
                    tape.append((char) (n >>> 8 * i & 255));
                }
            }
            return tape.length();
        }

        String text(int n, int most) {
            in(n, 0, Math.min(most, tape.length()));
            String text = tape.substring(0, n);
            tape.setLength(0);
            fault = -1;
            return text;
        }

        int failed(Fault f) {
            fault = f.place;
            return f.kind - 10;
        }

        boolean street(List<int[]> list, int a, int b) {
            for (int[] st : list) {
                if (st[0] == a && st[1] == b || st[0] == b && st[1] == a) {
                    return true;
                }
            }
            return false;
        }

        int land(int n) {
            Parser p = new Parser(text(n, 600));
            List<int[]> ps = new ArrayList<>();
            List<int[]> js = new ArrayList<>();
            List<int[]> ss = new ArrayList<>();
            int jug = 20;
            int dr = 2;
            try {
                for (int clauses = 0; !p.atEnd(); clauses++) {
                    Token word = p.now();
                    if (!List.of("person", "joke", "street", "jug", "drink").contains(word.text)) {
                        throw new Fault(1, word.place);
                    }
                    if (clauses == 60 || word.text.equals("person") && ps.size() == 7
                        || word.text.equals("joke") && js.size() == 6 || word.text.equals("street") && ss.size() == 12) {
                        throw new Fault(3, word.place);
                    }
                    p.at++;
                    if (word.text.equals("person")) {
                        ps.add(new int[] {p.number(0, 3), p.number(0, 9)});
                    } else if (word.text.equals("joke")) {
                        js.add(new int[] {p.number(0, 9), p.number(1, 20)});
                    } else if (word.text.equals("street")) {
                        int a = p.number(0, ps.size() - 1);
                        int place = p.now().place;
                        int b = p.number(0, ps.size() - 1);
                        if (a == b || street(ss, a, b)) {
                            throw new Fault(2, place);
                        }
                        ss.add(new int[] {a, b});
                    } else if (word.text.equals("jug")) {
                        jug = p.number(0, 200);
                    } else {
                        dr = p.number(0, 9);
                    }
                    p.need(";");
                }
            } catch (Fault f) {
                return failed(f);
            }
            persons = ps;
            jokes = js;
            streets = ss;
            drink = dr;
            law = null;
            book = new TreeMap<>();
            s = new State();
            s.jug = jug;
            past.clear();
            images.clear();
            refused = 0;
            return ps.size();
        }

        Value sum(Parser p, int open) throws Fault {
            Value left = product(p, open);
            while (p.is("+") || p.is("-")) {
                boolean plus = p.is("+");
                p.at++;
                Value a = left;
                Value b = product(p, open);
                left = g -> plus ? a.of(g) + b.of(g) : a.of(g) - b.of(g);
            }
            return left;
        }

        Value product(Parser p, int open) throws Fault {
            Value left = unit(p, open);
            while (p.is("*") || p.is("/") || p.is("%")) {
                String op = p.now().text;
                p.at++;
                Value a = left;
                Value b = unit(p, open);
                left = g -> {
                    int x = a.of(g);
                    int y = b.of(g);
                    if (op.equals("*")) {
                        return (int) ((long) x * y);
                    }
                    return y == 0 ? 0 : op.equals("/") ? (int) ((long) x / y) : (int) ((long) x % y);
                };
            }
            return left;
        }

        static final List<String> NAMES = List.of("strong", "apart", "worn", "told", "dimples", "grief", "near",
            "thirst", "day", "person");

        Value unit(Parser p, int open) throws Fault {
            Token t = p.now();
            if (t.text.matches("[0-9]+")) {
                int n = p.number(0, 999);
                return g -> n;
            }
            if (NAMES.contains(t.text)) {
                p.at++;
                return g -> g.get(t.text);
            }
            if (!List.of("(", "least", "most").contains(t.text)) {
                throw new Fault(1, t.place);
            }
            if (open == 6) {
                throw new Fault(3, t.place);
            }
            p.at++;
            if (t.text.equals("(")) {
                Value v = sum(p, open + 1);
                p.need(")");
                return v;
            }
            p.need("[");
            Value a = sum(p, open + 1);
            p.need(",");
            Value b = sum(p, open + 1);
            p.need("]");
            return g -> t.text.equals("least") ? Math.min(a.of(g), b.of(g)) : Math.max(a.of(g), b.of(g));
        }

        int law(int n) {
            Parser p = new Parser(text(n, 150));
            try {
                Value v = sum(p, 0);
                if (!p.atEnd()) {
                    throw new Fault(1, p.now().place);
                }
                law = v;
                return 1;
            } catch (Fault f) {
                return failed(f);
            }
        }

        /** Reads STEPS to the end, or to a "]"; each is a list of its word, numbers and, of an again, STEPS. */
        List<Object> steps(Parser p, int open) throws Fault {
            List<Object> list = new ArrayList<>();
            while (!(open == 0 ? p.atEnd() : p.is("]"))) {
                Token word = p.now();
                List<Object> step = new ArrayList<>();
                step.add(word.text);
                if (!List.of("tell", "grieve", "cheer", "pour", "day", "again").contains(word.text)) {
                    throw new Fault(1, word.place);
                }
                if (word.text.equals("again") && open == 6) {
                    throw new Fault(3, word.place);
                }
                p.at++;
                if (word.text.equals("tell")) {
                    step.add(p.number(0, jokes.size() - 1));
                    step.add(p.number(0, persons.size() - 1));
                } else if (word.text.equals("grieve")) {
                    step.add(p.number(0, persons.size() - 1));
                    step.add(p.number(1, 9));
                } else if (word.text.equals("cheer")) {
                    step.add(p.number(0, persons.size() - 1));
                } else if (word.text.equals("pour")) {
                    step.add(p.number(1, 99));
                } else if (word.text.equals("again")) {
                    step.add(p.number(0, 60));
                    p.need("[");
                    step.add(steps(p, open + 1));
                    p.need("]");
                }
                p.need(";");
                list.add(step);
            }
            return list;
        }

        int work(int n) {
            in(n, 0, Math.min(150, tape.length()));
            if (past.size() == 16) {
                tape.setLength(0);
                fault = -1;
                return -20;
            }
            Parser p = new Parser(text(n, 150));
            List<Object> list;
            try {
                list = steps(p, 0);
            } catch (Fault f) {
                return failed(f);
            }
            past.add(s.copy());
            begun = 0;
            done = 0;
            refusing = 0;
            doSteps(list);
            refused = refusing;
            return done;
        }

        void doSteps(List<?> list) {
            for (Object o : list) {
                List<?> step = (List<?>) o;
                if (begun == 200) {
                    return;
                }
                begun++;
                if (step.get(0).equals("again")) {
                    for (int i = 0; i < (Integer) step.get(1); i++) {
                        doSteps((List<?>) step.get(2));
                    }
                } else if (doStep(step)) {
                    done++;
                } else {
                    refusing++;
                }
            }
        }

        boolean doStep(List<?> step) {
            int a = step.size() > 1 ? (Integer) step.get(1) : 0;
            int b = step.size() > 2 ? (Integer) step.get(2) : 0;
            switch ((String) step.get(0)) {
                case "tell":
                    if (s.told[b]) {
                        return false;
                    }
                    tell(s, a, b);
                    return true;
                case "grieve":
                    if (s.grief[a] >= b) {
                        return false;
                    }
                    s.grief[a] = b;
                    return true;
                case "cheer":
                    if (s.grief[a] == 0) {
                        return false;
                    }
                    s.grief[a] = 0;
                    return true;
                case "pour":
                    if (s.jug < a) {
                        return false;
                    }
                    s.jug -= a;
                    return true;
                default:
                    if (s.day == 400) {
                        return false;
                    }
                    day(s);
                    return true;
            }
        }

        int tell(State t, int j, int p) {
            int laugh = laugh(t, j, p);
            t.told[p] = true;
            t.tales.add(new int[] {j, p, laugh});
            t.jug = Math.min(999, t.jug + laugh * persons.get(p)[0]);
            return laugh;
        }

        void day(State t) {
            for (int p = 0; p < persons.size(); p++) {
                int want = drink;
                while (want > 0 && t.jug > 0) {
                    want--;
                    t.jug--;
                }
                t.thirst[p] = want == 0 ? 0 : Math.min(99, t.thirst[p] + want);
            }
            for (int p = 0; p < 7; p++) {
                if (t.grief[p] > 0) {
                    t.grief[p]--;
                }
                t.told[p] = false;
            }
            t.day++;
        }

        TreeMap<String, Integer> given(State t, int j, int p) {
            TreeMap<String, Integer> g = new TreeMap<>();
            int near = 0;
            for (int o = 0; o < persons.size(); o++) {
                near += street(streets, p, o) && t.grief[o] > 0 ? 1 : 0;
            }
            int worn = 0;
            int told = 0;
            for (int[] tale : t.tales) {
                told += tale[0] == j ? 1 : 0;
                worn += tale[0] == j && tale[1] == p ? 1 : 0;
            }
            int[] all = {jokes.get(j)[1], Math.abs(jokes.get(j)[0] - persons.get(p)[1]), worn, told,
                persons.get(p)[0], t.grief[p], near, t.thirst[p], t.day, p};
            for (int i = 0; i < all.length; i++) {
                g.put(NAMES.get(i), all[i]);
            }
            return g;
        }

        int laughBy(TreeMap<String, Integer> g) {
            int v = law != null ? law.of(g)
                : g.get("strong") - g.get("apart") * 2 - g.get("worn") * 3 - g.get("grief");
            return v < 0 ? 0 : v > 40 ? 40 : v;
        }

        int laugh(State t, int j, int p) {
            return laughBy(given(t, j, p));
        }

        int book(int n) {
            Parser p = new Parser(text(n, 60));
            TreeMap<Integer, Integer> lines = new TreeMap<>();
            try {
                while (!p.atEnd()) {
                    int place = p.now().place;
                    int j = p.number(0, jokes.size() - 1);
                    if (lines.containsKey(j)) {
                        throw new Fault(2, place);
                    }
                    lines.put(j, p.number(0, 40));
                    p.need(";");
                }
            } catch (Fault f) {
                return failed(f);
            }
            book = lines;
            return lines.size();
        }

        int undo() {
            if (past.isEmpty()) {
                return -1;
            }
            s = past.remove(past.size() - 1);
            refused = 0;
            return past.size();
        }

        int image() {
            if (images.size() == 3) {
                return -1;
            }
            Saved saved = new Saved();
            saved.state = s.copy();
            saved.past = new ArrayList<>();
            for (State t : past) {
                saved.past.add(t.copy());
            }
            images.add(saved);
            return images.size();
        }

        int restore() {
            if (images.isEmpty()) {
                return -1;
            }
            Saved saved = images.remove(images.size() - 1);
            s = saved.state;
            past = saved.past;
            refused = 0;
            return images.size();
        }

        int bits(int[] row) {
            int bits = 0;
            for (int i = 0; i < row.length; i++) {
                bits += row[i] > 0 ? 1 << i : 0;
            }
            return bits;
        }

        int sumOf(int[] row) {
            int sum = 0;
            for (int v : row) {
                sum += v;
            }
            return sum;
        }

        int toldBits() {
            int bits = 0;
            for (int p = 0; p < 7; p++) {
                bits += s.told[p] ? 1 << p : 0;
            }
            return bits;
        }

        int told(int what) {
            in(what, 0, 11);
            int[] all = {persons.size(), jokes.size(), streets.size(), s.day, s.jug, drink, bits(s.grief),
                bits(s.thirst), toldBits(), book.size(), refused, sumOf(s.thirst)};
            return all[what];
        }

        int person(int p, int what) {
            has(persons, p);
            in(what, 0, 7);
            int times = 0;
            int laughed = 0;
            for (int[] tale : s.tales) {
                times += tale[1] == p ? 1 : 0;
                laughed += tale[1] == p ? tale[2] : 0;
            }
            int near = 0;
            for (int o = 0; o < persons.size(); o++) {
                near += street(streets, o, p) ? 1 << o : 0;
            }
            int[] all = {persons.get(p)[0], persons.get(p)[1], s.grief[p], s.thirst[p], s.told[p] ? 1 : 0, times,
                laughed, near};
            return all[what];
        }

        int joke(int j, int what) {
            has(jokes, j);
            in(what, 0, 2);
            int times = 0;
            for (int[] tale : s.tales) {
                times += tale[0] == j ? 1 : 0;
            }
            return what == 2 ? times : jokes.get(j)[what];
        }

        int street(int st, int what) {
            has(streets, st);
            in(what, 0, 1);
            return streets.get(st)[what];
        }

        void both(int j, int p) {
            has(jokes, j);
            has(persons, p);
        }

        int worn(int j, int p) {
            both(j, p);
            return given(s, j, p).get("worn");
        }

        int laugh(int j, int p) {
            both(j, p);
            return laugh(s, j, p);
        }

        int water(int j, int p) {
            both(j, p);
            return laugh(s, j, p) * persons.get(p)[0];
        }

        int would(int... all) {
            int[] least = {1, 0, 0, 0, 0, 0, 0, 0, 0, 0};
            int[] most = {20, 9, 999, 999, 3, 9, 6, 99, 400, 6};
            TreeMap<String, Integer> g = new TreeMap<>();
            boolean good = true;
            for (int i = 0; i < 10; i++) {
                good &= all[i] >= least[i] && all[i] <= most[i];
                g.put(NAMES.get(i), all[i]);
            }
            need(good);
            return laughBy(g);
        }

        int ahead(int n, int what) {
            need(n >= 0 && n <= 99 && what >= 0 && what <= 2);
            State t = s.copy();
            for (int i = 0; i < n; i++) {
                day(t);
            }
            return what == 0 ? t.jug : what == 1 ? bits(t.thirst) : sumOf(t.thirst);
        }

        int bestSum;
        int[] bestWay;

        void ways(int j, int[] way, int sum) {
            if (j == jokes.size()) {
                if (sum > bestSum) {
                    bestSum = sum;
                    bestWay = way.clone();
                }
                return;
            }
            for (int p = 0; p <= persons.size(); p++) {
                boolean none = p == persons.size();
                boolean free = none || !s.told[p];
                for (int i = 0; i < j && !none; i++) {
                    free &= way[i] != p;
                }
                if (free) {
                    way[j] = none ? -1 : p;
                    ways(j + 1, way, sum + (none ? 0 : waterNow[j][p]));
                }
            }
        }

        int[][] waterNow;

        void findBest() {
            waterNow = new int[jokes.size()][persons.size()];
            for (int j = 0; j < jokes.size(); j++) {
                for (int p = 0; p < persons.size(); p++) {
                    waterNow[j][p] = laugh(s, j, p) * persons.get(p)[0];
                }
            }
            bestSum = -1;
            ways(0, new int[jokes.size()], 0);
        }

        int best() {
            findBest();
            return bestSum;
        }

        int given(int j) {
            has(jokes, j);
            findBest();
            return bestWay[j];
        }

        int enough(int n) {
            in(n, 0, 999);
            for (int many = 0; many <= persons.size(); many++) {
                for (int bits = 0; bits < 1 << persons.size(); bits++) {
                    int sum = s.jug;
                    boolean good = Integer.bitCount(bits) == many;
                    for (int p = 0; p < persons.size(); p++) {
                        if ((bits & 1 << p) != 0) {
                            good &= !s.told[p];
                            int most = 0;
                            for (int j = 0; j < jokes.size(); j++) {
                                most = Math.max(most, laugh(s, j, p) * persons.get(p)[0]);
                            }
                            sum += most;
                        }
                    }
                    if (good && Math.min(999, sum) >= n) {
                        return bits;
                    }
                }
            }
            return -1;
        }

        int[] lasting(int j, int p) {
            TreeMap<String, Integer> g = given(s, j, p);
            int times = 0;
            int sum = 0;
            while (times < 99 && laughBy(g) > 0) {
                sum += laughBy(g);
                times++;
                g.merge("worn", 1, Integer::sum);
                g.merge("told", 1, Integer::sum);
            }
            return new int[] {times, sum * persons.get(p)[0]};
        }

        int lasts(int j, int p) {
            both(j, p);
            return lasting(j, p)[0];
        }

        int well(int j, int p) {
            both(j, p);
            return lasting(j, p)[1];
        }

        int laughOfPair(int j, int p, int taste, int grief) {
            TreeMap<String, Integer> g = given(s, j, p);
            g.put("apart", Math.abs(taste - jokes.get(j)[0]));
            g.put("grief", grief);
            return laughBy(g);
        }

        List<int[]> pairs(int p) {
            List<int[]> list = new ArrayList<>();
            for (int taste = 0; taste < 10; taste++) {
                for (int grief = 0; grief < 10; grief++) {
                    boolean good = true;
                    for (int j : book.keySet()) {
                        good = good && laughOfPair(j, p, taste, grief) == book.get(j);
                    }
                    if (good) {
                        list.add(new int[] {taste, grief});
                    }
                }
            }
            return list;
        }

        int fits(int p, int what) {
            has(persons, p);
            in(what, 0, 1);
            List<int[]> list = pairs(p);
            return what == 0 ? list.size() : list.isEmpty() ? -1 : 10 * list.get(0)[0] + list.get(0)[1];
        }

        int look(int p, int what) {
            has(persons, p);
            in(what, 0, 1);
            List<int[]> list = pairs(p);
            int joke = -1;
            int least = -1;
            for (int j = 0; j < jokes.size(); j++) {
                if (book.containsKey(j)) {
                    continue;
                }
                TreeMap<Integer, Integer> sorts = new TreeMap<>();
                for (int[] pair : list) {
                    sorts.merge(laughOfPair(j, p, pair[0], pair[1]), 1, Integer::sum);
                }
                int worst = 0;
                for (int many : sorts.values()) {
                    worst = Math.max(worst, many);
                }
                if (joke == -1 || worst < least) {
                    joke = j;
                    least = worst;
                }
            }
            return what == 0 ? joke : least;
        }

        int comfort() {
            for (int many = 0; many <= persons.size(); many++) {
                for (int bits = 0; bits < 1 << persons.size(); bits++) {
                    boolean good = Integer.bitCount(bits) == many;
                    for (int p = 0; p < persons.size(); p++) {
                        boolean by = s.grief[p] == 0 || (bits >> p & 1) == 1;
                        for (int o = 0; o < persons.size(); o++) {
                            by |= (bits >> o & 1) == 1 && street(streets, p, o);
                        }
                        good &= by;
                    }
                    if (good) {
                        return bits;
                    }
                }
            }
            return -77;
        }

        int[][] ways() {
            int n = persons.size();
            int[][] far = new int[n][n];
            for (int a = 0; a < n; a++) {
                for (int b = 0; b < n; b++) {
                    far[a][b] = a == b ? 0 : street(streets, a, b) ? 1 : 99;
                }
            }
            for (int m = 0; m < n; m++) {
                for (int a = 0; a < n; a++) {
                    for (int b = 0; b < n; b++) {
                        far[a][b] = Math.min(far[a][b], far[a][m] + far[m][b]);
                    }
                }
            }
            return far;
        }

        int way(int a, int b) {
            has(persons, a);
            has(persons, b);
            int far = ways()[a][b];
            return far >= 99 ? -1 : far;
        }

        int parts() {
            int[][] far = ways();
            int parts = 0;
            for (int a = 0; a < persons.size(); a++) {
                boolean first = true;
                for (int b = 0; b < a; b++) {
                    first &= far[a][b] >= 99;
                }
                parts += first ? 1 : 0;
            }
            return parts;
        }

        int dry() {
            for (int n = 0; n <= 99; n++) {
                State t = s.copy();
                for (int i = 0; i < n; i++) {
                    day(t);
                }
                if (sumOf(t.thirst) > 0) {
                    return n;
                }
            }
            return -1;
        }

        int has(int v, int w, int a, int b) {
            return (a > b ? v : a < b ? 0 : v / 2) - w * a;
        }

        int comedians(int v, int w, int n, int what) {
            need(v >= 0 && v <= 99 && w >= 0 && w <= 20 && n >= 1 && n <= 6 && what >= 0 && what <= 2);
            List<int[]> rests = new ArrayList<>();
            for (int a = 0; a < n; a++) {
                for (int b = 0; b < n; b++) {
                    boolean rest = true;
                    for (int c = 0; c < n; c++) {
                        rest &= has(v, w, c, b) <= has(v, w, a, b) && has(v, w, c, a) <= has(v, w, b, a);
                    }
                    if (rest) {
                        rests.add(new int[] {10 * a + b, has(v, w, a, b) + has(v, w, b, a)});
                    }
                }
            }
            return what == 0 ? rests.size() : rests.isEmpty() ? what - 2 : rests.get(0)[what - 1];
        }

        long some(int n, int k, int q, int part) {
            need(n >= 0 && n <= 12 && k >= 0 && k <= 13 && q >= 0 && q <= 16 && part >= 0 && part <= 1);
            BigInteger[] chance = {BigInteger.ONE};
            for (int i = 0; i < n; i++) {
                BigInteger[] more = new BigInteger[i + 2];
                for (int j = 0; j < more.length; j++) {
                    BigInteger not = j <= i ? chance[j].multiply(BigInteger.valueOf(16 - q)) : BigInteger.ZERO;
                    BigInteger yes = j > 0 ? chance[j - 1].multiply(BigInteger.valueOf(q)) : BigInteger.ZERO;
                    more[j] = not.add(yes);
                }
                chance = more;
            }
            BigInteger above = BigInteger.ZERO;
            for (int j = k; j <= n; j++) {
                above = above.add(chance[j]);
            }
            BigInteger below = BigInteger.valueOf(16).pow(n);
            BigInteger both = above.gcd(below);
            return (part == 0 ? above : below).divide(both).longValueExact();
        }

        int share(int p, int bits, int n) {
            has(persons, p);
            boolean good = n >= 0 && n <= 999;
            for (int i = 0; i < 32; i++) {
                good &= i < persons.size() || (bits >>> i & 1) == 0;
            }
            need(good);
            int best = 0;
            for (int bound = 0; bound <= 99; bound++) {
                int sum = 0;
                for (int i = 0; i < persons.size(); i++) {
                    sum += (bits >> i & 1) == 1 ? Math.min(bound, s.thirst[i]) : 0;
                }
                if (sum <= n) {
                    best = Math.min(bound, s.thirst[p]);
                }
            }
            return (bits >> p & 1) == 1 ? best : 0;
        }

        int likes(int p, int what) {
            has(persons, p);
            in(what, 0, 1);
            int[] best = {-1, -1};
            for (int j = jokes.size() - 1; j >= 0; j--) {
                if (laugh(s, j, p) >= best[1]) {
                    best = new int[] {j, laugh(s, j, p)};
                }
            }
            return best[what];
        }

        int solemn(int j) {
            has(jokes, j);
            int bits = 0;
            for (int p = 0; p < persons.size(); p++) {
                bits += laugh(s, j, p) == 0 ? 1 << p : 0;
            }
            return bits;
        }

        int driest(int what) {
            in(what, 0, 1);
            int[] best = {-1, -1};
            for (int p = persons.size() - 1; p >= 0; p--) {
                if (s.thirst[p] > 0 && s.thirst[p] >= best[1]) {
                    best = new int[] {p, s.thirst[p]};
                }
            }
            return best[what];
        }

        int alike(int what) {
            in(what, 0, 1);
            List<Integer> pairs = new ArrayList<>();
            for (int a = 0; a < persons.size(); a++) {
                for (int b = a + 1; b < persons.size(); b++) {
                    if (persons.get(a)[1] == persons.get(b)[1]) {
                        pairs.add(10 * a + b);
                    }
                }
            }
            return what == 0 ? pairs.size() : pairs.isEmpty() ? -1 : pairs.get(0);
        }

        int seed;

        int draw(int by) {
            seed = (int) ((seed * 1103515245L + 12345L) & 0xFFFFFFFFL);
            return (int) ((seed & 0xFFFFFFFFL) / 65536 % 32768 % by);
        }

        int laughedInYear;

        State yearOf(int from, int days, int q) {
            State t = s.copy();
            seed = from;
            laughedInYear = 0;
            for (int d = 0; d < days; d++) {
                if (!jokes.isEmpty() && !persons.isEmpty()) {
                    int j = draw(jokes.size());
                    int p = draw(persons.size());
                    if (!t.told[p]) {
                        laughedInYear += tell(t, j, p);
                    }
                    if (draw(16) < q && t.grief[p] < 3) {
                        t.grief[p] = 3;
                    }
                }
                day(t);
            }
            return t;
        }

        int year(int from, int days, int q, int what) {
            need(days >= 1 && days <= 96 && q >= 0 && q <= 16 && what >= 0 && what <= 3);
            State t = yearOf(from, days, q);
            return new int[] {t.jug, laughedInYear, sumOf(t.thirst), bits(t.grief)}[what];
        }

        int span(int from, int many, int days, int q, int what, int p) {
            need(many >= 1 && many <= 20 && days >= 1 && days <= 96 && q >= 0 && q <= 16 && what >= 0 && what <= 2
                && p >= 0 && p < persons.size());
            int least = Integer.MAX_VALUE;
            int most = -1;
            int thirsty = 0;
            for (int i = 0; i < many; i++) {
                State t = yearOf(from + i, days, q);
                least = Math.min(least, t.jug);
                most = Math.max(most, t.jug);
                thirsty += t.thirst[p] > 0 ? 1 : 0;
            }
            return what == 0 ? least : what == 1 ? most : thirsty;
        }

        int status(int what) {
            return what == 0 ? noSuch : what == 1 ? wrong : -1;
        }

        int count(int what) {
            return what == 0 ? images.size() : what == 1 ? tape.length() : what == 2 ? past.size() : -1;
        }
    }

    private static final class Drawer {
        final Random r;

        Drawer(long seed) {
            r = new Random(seed);
        }

        int to(int most) {
            return r.nextInt(most + 1);
        }

        boolean one(int of) {
            return r.nextInt(of) == 0;
        }

        int about(int least, int most) {
            return one(12) ? least - 1 + r.nextInt(most - least + 3) : least + r.nextInt(most - least + 1);
        }

        String blank() {
            return one(8) ? " ".repeat(to(2)) : "";
        }

        String num(int n) {
            return (one(40) ? "00" : "") + Math.max(0, n);
        }

        String land() {
            StringBuilder b = new StringBuilder();
            int persons = one(10) ? to(9) : 1 + to(6);
            int jokes = one(10) ? to(7) : 1 + to(5);
            int dimples = one(3) ? 1 : 3;
            for (int i = 0; i < persons; i++) {
                b.append(blank()).append("person ").append(one(60) ? 4 : to(dimples)).append(' ')
                    .append(one(90) ? 10 : to(9)).append(blank()).append(';');
            }
            for (int i = 0; i < jokes; i++) {
                b.append("joke ").append(num(one(90) ? 10 : to(9))).append(' ')
                    .append(num(one(60) ? about(1, 20) : 1 + to(19))).append(';').append(blank());
            }
            int streets = one(20) ? 14 : to(8);
            List<String> had = new ArrayList<>();
            for (int i = 0; i < streets && persons > 1; i++) {
                int a = to(Math.min(persons, 7) - 1);
                int p = to(Math.min(persons, 7) - 1);
                boolean again = a == p || had.contains(a + " " + p) || had.contains(p + " " + a);
                if (!again || one(40)) {
                    b.append("street ").append(num(a)).append(' ').append(p).append(';');
                    had.add(a + " " + p);
                }
            }
            if (one(2)) {
                b.append("jug ").append(num(one(20) ? about(199, 200) : to(one(2) ? 30 : 200))).append(';');
            }
            if (one(2)) {
                b.append("drink ").append(num(one(20) ? about(0, 9) : to(9))).append(';');
            }
            if (one(60)) {
                b.append("jug 3;".repeat(to(60)));
            }
            return b.append(blank()).toString();
        }

        String unit(int deep) {
            int k = to(deep > 0 ? 9 : 5);
            if (k < 2) {
                return num(one(30) ? about(998, 999) : to(one(3) ? 999 : 12));
            }
            if (k < 7) {
                return Model.NAMES.get(to(9));
            }
            if (k == 7) {
                return "(" + blank() + sum(deep - 1) + blank() + ")";
            }
            return (k == 8 ? "least" : "most") + blank() + "[" + sum(deep - 1) + blank() + "," + sum(deep - 1) + "]";
        }

        String product(int deep) {
            StringBuilder b = new StringBuilder(unit(deep));
            for (int i = one(2) ? to(2) : 0; i > 0; i--) {
                b.append(blank()).append("**/%".charAt(to(3))).append(blank()).append(unit(deep));
            }
            return b.toString();
        }

        String sum(int deep) {
            StringBuilder b = new StringBuilder(product(deep));
            for (int i = to(2); i > 0; i--) {
                b.append(blank()).append(one(2) ? '+' : '-').append(blank()).append(product(deep));
            }
            return b.toString();
        }

        String law() {
            if (one(2)) {
                String[] usual = {"strong - apart * 2 - worn * 3 - grief", "strong+told-worn*2-near", "40-worn-apart",
                    "strong*2-apart*3-grief*dimples-thirst/3+near*2", "most[strong-apart-grief*2-worn,day%5]",
                    "strong % (apart + 1) + person", "((((((strong-grief))))))", "least[(((((strong-grief)))),7]"};
                return usual[to(usual.length - 1)];
            }
            if (one(10)) {
                return "(".repeat(4 + to(4)) + "strong" + ")".repeat(4 + to(4));
            }
            return sum(to(7));
        }

        String steps(Model m, int deep, int many) {
            StringBuilder b = new StringBuilder();
            for (int i = 0; i < many; i++) {
                b.append(blank()).append(step(m, deep)).append(blank()).append(';');
            }
            return b.toString();
        }

        int of(List<int[]> list) {
            return one(60) ? list.size() : list.isEmpty() ? 0 : to(list.size() - 1);
        }

        String step(Model m, int deep) {
            int k = to(deep > 0 ? 11 : 8);
            if (k < 4 && (m.jokes.size() > 0 && m.persons.size() > 0 || one(9))) {
                return "tell " + of(m.jokes) + " " + of(m.persons);
            }
            if (k == 4 && (m.persons.size() > 0 || one(9))) {
                return "grieve " + of(m.persons) + " " + (one(30) ? to(10) : 1 + to(8));
            }
            if (k == 5 && (m.persons.size() > 0 || one(9))) {
                return "cheer " + of(m.persons);
            }
            if (k == 6) {
                return "pour " + (one(30) ? about(1, 99) : 1 + to(one(2) ? 9 : 98));
            }
            if (k < 9) {
                return "day";
            }
            return "again " + num(one(30) ? about(0, 60) : to(one(2) ? 4 : 60)) + blank() + "["
                + steps(m, deep - 1, to(3)) + blank() + "]";
        }

        String work(Model m) {
            if (one(30)) {
                int open = 4 + to(4);
                return "again 1[".repeat(open) + "day;" + "];".repeat(open);
            }
            return steps(m, to(3), to(6));
        }

        String book(Model m) {
            StringBuilder b = new StringBuilder();
            List<Integer> had = new ArrayList<>();
            for (int i = to(4); i > 0; i--) {
                int j = of(m.jokes);
                if (!had.contains(j) || one(15)) {
                    had.add(j);
                    int l = one(40) ? about(0, 40) : to(20);
                    if (j < m.jokes.size() && m.persons.size() > 0 && !one(4)) {
                        l = m.laugh(m.s, j, to(m.persons.size() - 1));
                    }
                    b.append(blank()).append(j).append(' ').append(num(l)).append(blank()).append(';');
                }
            }
            return b.toString();
        }

        String spoilt(String text) {
            if (!one(7) || text.isEmpty()) {
                return text;
            }
            int at = to(text.length() - 1);
            String some = " ;[](),+-*/%0129adklnoprst\n\u0000\u00ff:@`{";
            char c = some.charAt(to(some.length() - 1));
            switch (to(4)) {
                case 0: return text.substring(0, at);
                case 1: return text.substring(0, at) + c + text.substring(at);
                case 2: return text.substring(0, at) + c + text.substring(at + 1);
                case 3: return text.substring(0, at) + text.substring(at + 1);
                default: return text.substring(at);
            }
        }
    }

    private static int wrong = 0;
    private static final TreeMap<String, Integer> SEEN = new TreeMap<>();

    private static String of(Call call) {
        try {
            return String.valueOf(call.answer());
        } catch (RuntimeException e) {
            return e.getClass().getName();
        }
    }

    private static String same(StringBuilder log, String name, Call real, Call model, int... args) {
        String call = name + java.util.Arrays.toString(args);
        String want = of(model);
        String got = of(real);
        log.append(call).append(" = ").append(got).append('\n');
        String sort = want.startsWith("java") ? want : want.equals("-1") ? "-1" : want.equals("0") ? "0" : "other";
        SEEN.merge(name + " " + sort, 1, Integer::sum);
        if (!got.equals(want)) {
            wrong++;
            if (wrong <= 5) {
                System.out.println(log + "due was " + want + "\n");
            }
        }
        return got;
    }

    private static int put(StringBuilder log, DimpleWells x, Model m, String text) {
        if (m.tape.length() > 0) {
            // What is left on the tape is dropped by a text of no bytes that changes nothing.
            same(log, "law", () -> x.law(0), () -> m.law(0), 0);
        }
        log.append("text ").append(text).append('\n');
        for (int i = 0; i < text.length(); i += 20) {
            int[] n = new int[5];
            for (int k = 0; k < 20; k++) {
                n[k / 4] = n[k / 4] << 8 | (i + k < text.length() ? text.charAt(i + k) & 255 : 0);
            }
            same(log, "feed", () -> x.feed(n[0], n[1], n[2], n[3], n[4]), () -> m.feed(n));
        }
        return text.length();
    }

    private static void drawCall(StringBuilder log, Drawer d, DimpleWells x, Model m) {
        int j = d.about(0, Math.max(0, m.jokes.size() - 1));
        int p = d.about(0, Math.max(0, m.persons.size() - 1));
        int o = d.about(0, Math.max(0, m.persons.size() - 1));
        int what = d.about(0, 1);
        int three = d.about(0, 2);
        int q = d.about(0, 16);
        int days = d.about(1, d.one(4) ? 96 : 9);
        int seed = d.r.nextInt();
        switch (d.to(44)) {
            case 0: {
                int n = put(log, x, m, d.spoilt(d.land()));
                if (d.one(3)) {
                    same(log, "land", () -> x.land(n), () -> m.land(n), n);
                }
                break;
            }
            case 1:
            case 2: {
                int n = put(log, x, m, d.spoilt(d.law()));
                same(log, "law", () -> x.law(n), () -> m.law(n), n);
                break;
            }
            case 3:
            case 4:
            case 5:
            case 6: {
                int n = put(log, x, m, d.spoilt(d.work(m)));
                same(log, "work", () -> x.work(n), () -> m.work(n), n);
                same(log, "told", () -> x.told(10), () -> m.told(10), 10);
                break;
            }
            case 7:
            case 8: {
                int n = put(log, x, m, d.spoilt(d.book(m)));
                same(log, "book", () -> x.book(n), () -> m.book(n), n);
                break;
            }
            case 9: {
                int n = d.about(0, m.tape.length());
                // Seldom a LAND, which is most often one of no bytes, where little can be asked.
                int k = d.one(9) ? 0 : 1 + d.to(2);
                same(log, "text " + k, () -> k == 0 ? x.land(n) : k == 1 ? x.law(n) : k == 2 ? x.work(n) : x.book(n),
                    () -> k == 0 ? m.land(n) : k == 1 ? m.law(n) : k == 2 ? m.work(n) : m.book(n), n);
                break;
            }
            case 10: {
                same(log, "undo", x::undo, m::undo);
                break;
            }
            case 11: {
                int w = d.about(0, 11);
                same(log, "told", () -> x.told(w), () -> m.told(w), w);
                break;
            }
            case 12: {
                int w = d.about(0, 7);
                same(log, "person", () -> x.person(p, w), () -> m.person(p, w), p, w);
                break;
            }
            case 13: {
                same(log, "joke", () -> x.joke(j, three), () -> m.joke(j, three), j, three);
                break;
            }
            case 14: {
                int st = d.about(0, Math.max(0, m.streets.size() - 1));
                same(log, "street", () -> x.street(st, what), () -> m.street(st, what), st, what);
                break;
            }
            case 15: same(log, "worn", () -> x.worn(j, p), () -> m.worn(j, p), j, p); break;
            case 16: same(log, "laugh", () -> x.laugh(j, p), () -> m.laugh(j, p), j, p); break;
            case 17: same(log, "water", () -> x.water(j, p), () -> m.water(j, p), j, p); break;
            case 18: {
                int[] a = {1 + d.to(19), d.to(9), d.to(999), d.to(999), d.to(3), d.to(9), d.to(6), d.to(99), d.to(400),
                    d.to(6)};
                if (d.one(9)) {
                    a[d.to(9)] = d.about(-1, 1001);
                }
                same(log, "would", () -> x.would(a[0], a[1], a[2], a[3], a[4], a[5], a[6], a[7], a[8], a[9]),
                    () -> m.would(a), a);
                break;
            }
            case 19: {
                int n = d.about(0, d.one(2) ? 99 : 9);
                same(log, "ahead", () -> x.ahead(n, three), () -> m.ahead(n, three), n, three);
                break;
            }
            case 20: same(log, "best", x::best, m::best); break;
            case 21: same(log, "given", () -> x.given(j), () -> m.given(j), j); break;
            case 22: {
                int n = d.one(3) ? d.about(0, 999) : Math.min(999, m.s.jug + d.to(150));
                same(log, "enough", () -> x.enough(n), () -> m.enough(n), n);
                break;
            }
            case 23: same(log, "lasts", () -> x.lasts(j, p), () -> m.lasts(j, p), j, p); break;
            case 24: same(log, "well", () -> x.well(j, p), () -> m.well(j, p), j, p); break;
            case 25: same(log, "fits", () -> x.fits(p, what), () -> m.fits(p, what), p, what); break;
            case 26: same(log, "look", () -> x.look(p, what), () -> m.look(p, what), p, what); break;
            case 27: same(log, "comfort", x::comfort, m::comfort); break;
            case 28: same(log, "way", () -> x.way(p, o), () -> m.way(p, o), p, o); break;
            case 29: same(log, "dry", x::dry, m::dry); break;
            case 30: {
                int v = d.about(0, 99);
                int w = d.about(0, 20);
                int n = d.about(1, 6);
                same(log, "comedians", () -> x.comedians(v, w, n, three), () -> m.comedians(v, w, n, three), v, w, n,
                    three);
                break;
            }
            case 31: {
                int n = d.about(0, 12);
                int k = d.about(0, 13);
                same(log, "some", () -> x.some(n, k, q, what), () -> m.some(n, k, q, what), n, k, q, what);
                break;
            }
            case 32: {
                int bits = d.one(15) ? d.r.nextInt() : d.to((1 << m.persons.size()) - 1);
                int n = d.about(0, d.one(5) ? 999 : 60);
                same(log, "share", () -> x.share(p, bits, n), () -> m.share(p, bits, n), p, bits, n);
                break;
            }
            case 33: same(log, "likes", () -> x.likes(p, what), () -> m.likes(p, what), p, what); break;
            case 34: same(log, "solemn", () -> x.solemn(j), () -> m.solemn(j), j); break;
            case 35: same(log, "driest", () -> x.driest(what), () -> m.driest(what), what); break;
            case 36: same(log, "parts", x::parts, m::parts); break;
            case 37: same(log, "alike", () -> x.alike(what), () -> m.alike(what), what); break;
            case 38: {
                int w = d.about(0, 3);
                same(log, "year", () -> x.year(seed, days, q, w), () -> m.year(seed, days, q, w), seed, days, q, w);
                break;
            }
            case 39: {
                int many = d.about(1, 20);
                same(log, "span", () -> x.span(seed, many, days, q, three, p),
                    () -> m.span(seed, many, days, q, three, p), seed, many, days, q, three, p);
                break;
            }
            default:
                switch (d.to(4)) {
                    case 0: same(log, "image", x::image, m::image); break;
                    case 1: same(log, "restore", x::restore, m::restore); break;
                    case 2: same(log, "status", () -> x.status(three), () -> m.status(three), three); break;
                    case 3: same(log, "count", () -> x.count(three), () -> m.count(three), three); break;
                    default: same(log, "fault", x::fault, () -> m.fault); break;
                }
        }
    }

    public static void main(String[] args) {
        for (int run = 0; run < RUNS; run++) {
            Drawer d = new Drawer(run);
            DimpleWells x = new DimpleWells();
            Model m = new Model();
            StringBuilder log = new StringBuilder("run " + run + "\n");
            if (!d.one(20)) {
                int n = put(log, x, m, d.one(8) ? d.spoilt(d.land()) : d.land());
                same(log, "land", () -> x.land(n), () -> m.land(n), n);
            }
            for (int i = 0; i < CALLS; i++) {
                drawCall(log, d, x, m);
                if (d.one(3)) {
                    same(log, "fault", x::fault, () -> m.fault);
                }
            }
        }
        if (args.length > 0) {
            System.out.println(SEEN);
        }
        System.out.println(wrong == 0 ? "all answers are as due" : wrong + " answers are not as due");
        if (wrong != 0) {
            System.exit(1);
        }
    }
}

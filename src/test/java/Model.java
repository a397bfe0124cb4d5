import java.util.ArrayDeque;
import java.util.ArrayList;
import java.util.Arrays;
import java.util.Deque;
import java.util.HashMap;
import java.util.List;
import java.util.Map;
import java.util.NoSuchElementException;
import java.util.TreeSet;
import java.util.function.BiPredicate;
import java.util.function.ToIntBiFunction;
import java.util.regex.Matcher;
import java.util.regex.Pattern;

/** The document told a second time, in the slowest and plainest way, for the random runs to compare with. */
final class Model {
    static final int NONE = -1;

    static final class Field {
        int slope, snow, room;
    }

    static final class Person {
        String given;
        int on = NONE;
        char[] marks = new char[0];
        int[] depth = new int[0];

        String read() {
            StringBuilder b = new StringBuilder();
            for (int i = 0; i < marks.length && on >= 0; i++) {
                if (depth[i] > 0) {
                    b.append(marks[i]);
                }
            }
            return b.toString();
        }

        boolean whole() {
            return on >= 0 && read().equals(given);
        }
    }

    record Debt(int from, int to, int sum) { }

    record Row(int day, int person, int what, int field) { }

    record Line(String kind, int n, BiPredicate<State, int[]> holds) { }

    static final class State {
        List<Field> fields = new ArrayList<>();
        List<Person> people = new ArrayList<>();
        List<Debt> debts = new ArrayList<>();
        List<Row> log = new ArrayList<>();
        List<Line> law = null;
        Map<String, Integer> set = new HashMap<>(Map.of("flakes", 5, "fall", 50, "hares", 0, "wind", 0, "day", 0));
        int seed = 1;
        int texts = 0;

        State copy() {
            State c = new State();
            for (Field f : fields) {
                Field g = new Field();
                g.slope = f.slope;
                g.snow = f.snow;
                g.room = f.room;
                c.fields.add(g);
            }
            for (Person p : people) {
                Person q = new Person();
                q.given = p.given;
                q.on = p.on;
                q.marks = p.marks.clone();
                q.depth = p.depth.clone();
                c.people.add(q);
            }
            c.debts.addAll(debts);
            c.log.addAll(log);
            c.law = law;
            c.set.putAll(set);
            c.seed = seed;
            c.texts = texts;
            return c;
        }

        int draw() {
            seed = seed * 1103515245 + 12345;
            return (seed >> 16) & 0x7fff;
        }

        int owes(int p) {
            return debts.stream().filter(d -> d.from == p).mapToInt(d -> d.sum).sum();
        }

        int owed(int p) {
            return debts.stream().filter(d -> d.to == p).mapToInt(d -> d.sum).sum();
        }

        int used(int f) {
            return people.stream().filter(p -> p.on == f).mapToInt(p -> p.given.length()).sum();
        }

        int sumOf(String kind, int p, int f) {
            int sum = 0;
            if (law != null) {
                for (Line line : law) {
                    if (line.kind.equals(kind) && line.holds.test(this, new int[] {p, f})) {
                        sum += line.n;
                    }
                }
            }
            return sum;
        }

        int melts(int p, int f) {
            int m = fields.get(f).slope / 2 + sumOf("melt", p, f) - sumOf("keep", p, f);
            return m < 0 ? 0 : m;
        }

        int deep(int p, int f) {
            int d = 4 + sumOf("deep", p, f);
            return d > 9 ? 9 : d;
        }

        void put(int p, int f, int deep) {
            Person q = people.get(p);
            q.on = f;
            q.marks = q.given.toCharArray();
            q.depth = new int[q.marks.length];
            Arrays.fill(q.depth, deep);
        }

        void row(int p, int what, int field) {
            log.add(new Row(set.get("day"), p, what, field));
            while (log.size() > 60) {
                log.remove(0);
            }
        }

        void allGone() {
            for (int p = 0; p < people.size(); p++) {
                Person q = people.get(p);
                if (q.on >= 0 && q.read().isEmpty()) {
                    row(p, 2, q.on);
                    q.on = NONE;
                }
            }
        }

        void falls() {
            for (Field f : fields) {
                f.snow += set.get("flakes");
                if (f.snow > 99) {
                    f.snow = 99;
                }
            }
            for (Person p : people) {
                for (int i = 0; i < p.depth.length; i++) {
                    if (p.depth[i] > 0) {
                        p.depth[i]--;
                    }
                }
            }
            allGone();
        }

        void thaws() {
            State before = copy();
            for (Field f : fields) {
                f.snow -= f.slope + 1;
                if (f.snow < 0) {
                    f.snow = 0;
                }
            }
            for (int p = 0; p < people.size(); p++) {
                Person q = people.get(p);
                if (q.on < 0) {
                    continue;
                }
                int m = before.melts(p, q.on);
                for (int i = 0; i < q.depth.length; i++) {
                    q.depth[i] = fields.get(q.on).snow == 0 || q.depth[i] < m ? 0 : q.depth[i] - m;
                }
            }
            allGone();
        }

        void nextDay() {
            set.put("day", Math.min(9999, set.get("day") + 1));
        }

        boolean day() {
            boolean snows = draw() % 100 < set.get("fall");
            if (snows) {
                falls();
            } else {
                thaws();
            }
            List<Integer> there = new ArrayList<>();
            for (int p = 0; p < people.size(); p++) {
                if (people.get(p).on >= 0) {
                    there.add(p);
                }
            }
            if (draw() % 100 < set.get("hares") && !there.isEmpty()) {
                int p = there.get(draw() % there.size());
                Person q = people.get(p);
                int k = draw() % q.marks.length;
                if (q.depth[k] > 0) {
                    q.marks[k] = q.marks[k] == 'h' ? 'a' : (char) (q.marks[k] + 1);
                    row(p, 3, q.on);
                }
            }
            if (draw() % 100 < set.get("wind")) {
                for (int p = 0; p < people.size(); p++) {
                    Person q = people.get(p);
                    if (q.on < 0) {
                        continue;
                    }
                    int to = (q.on + 1) % fields.size();
                    if (fields.get(to).snow > 0) {
                        q.on = to;
                    } else {
                        row(p, 4, q.on);
                        q.on = NONE;
                    }
                }
            }
            nextDay();
            return snows;
        }

        State in(int n) {
            State c = copy();
            for (int i = 0; i < n; i++) {
                c.thaws();
                c.nextDay();
            }
            return c;
        }

        int bits(java.util.function.Predicate<Person> which) {
            int b = 0;
            for (int p = 0; p < people.size(); p++) {
                if (which.test(people.get(p))) {
                    b += 1 << p;
                }
            }
            return b;
        }

        int allSnow() {
            return fields.stream().mapToInt(f -> f.snow).sum();
        }
    }

    static final class Wrong extends RuntimeException {
        private static final long serialVersionUID = 1;
        final int at;

        Wrong(int at) {
            this.at = at;
        }
    }

    /** A text as a row of things, each with where it begins. */
    static final class Reading {
        static final Pattern THING = Pattern.compile("[a-z]+|[0-9]+|[^ ]", Pattern.DOTALL);
        final List<String> things = new ArrayList<>();
        final List<Integer> begins = new ArrayList<>();
        int i = 0;

        Reading(String text) {
            Matcher m = THING.matcher(text);
            while (m.find()) {
                things.add(m.group());
                begins.add(m.start());
            }
            things.add("");
            begins.add(text.length());
        }

        String peek() {
            return things.get(i);
        }

        boolean is(String s) {
            return peek().equals(s);
        }

        boolean eat(String s) {
            if (is(s)) {
                i++;
                return true;
            }
            return false;
        }

        Wrong wrong() {
            return new Wrong(begins.get(i));
        }

        void must(String s) {
            if (!eat(s)) {
                throw wrong();
            }
        }

        int number(int low, int high) {
            if (!peek().matches("[0-9]{1,3}")) {
                throw wrong();
            }
            int n = Integer.parseInt(peek());
            if (n < low || n > high) {
                throw wrong();
            }
            i++;
            return n;
        }
    }

    State s = new State();
    final Deque<State> undone = new ArrayDeque<>();
    State kept = null;
    String tape = "";
    int fault = NONE;

    int feed(int a, int b, int c, int d, int e) {
        if (tape.length() + 20 > 400) {
            return NONE;
        }
        for (int n : new int[] {a, b, c, d, e}) {
            tape += "" + (char) (n >> 24 & 255) + (char) (n >> 16 & 255) + (char) (n >> 8 & 255) + (char) (n & 255);
        }
        return tape.length();
    }

    boolean end(int n) {
        if (n < 0 || n > tape.length()) {
            return false;
        }
        tape = tape.substring(0, n);
        return true;
    }

    private String use() {
        String t = tape;
        tape = "";
        return t;
    }

    int province() {
        String text = use();
        State d = s.copy();
        fault = NONE;
        try {
            readProvince(new Reading(text), d);
        } catch (Wrong w) {
            fault = w.at;
            throw new IllegalArgumentException();
        }
        if (s.texts == 12) {
            throw new UnsupportedOperationException();
        }
        s = d;
        undone.clear();
        return ++s.texts;
    }

    private static void readProvince(Reading r, State d) {
        if (r.is("")) {
            return;
        }
        int lines = 0;
        do {
            if (lines == 14) {
                throw r.wrong();
            }
            lines++;
            readProvinceLine(r, d);
        } while (r.eat(";"));
        if (!r.is("")) {
            throw r.wrong();
        }
    }

    private static void readProvinceLine(Reading r, State d) {
        String word = r.peek();
        switch (word) {
            case "field" -> {
                if (d.fields.size() == 6) {
                    throw r.wrong();
                }
                r.i++;
                Field f = new Field();
                r.must("slope");
                f.slope = r.number(0, 9);
                r.must("room");
                f.room = r.number(1, 20);
                if (r.eat("snow")) {
                    f.snow = r.number(0, 99);
                }
                d.fields.add(f);
            }
            case "name" -> {
                if (d.people.size() == 6) {
                    throw r.wrong();
                }
                r.i++;
                if (!r.peek().matches("[a-h]{1,6}")) {
                    throw r.wrong();
                }
                Person p = new Person();
                p.given = r.peek();
                r.i++;
                d.people.add(p);
                if (r.eat("on")) {
                    int at = r.i;
                    int f = r.number(0, d.fields.size() - 1);
                    if (d.fields.get(f).snow == 0 || d.fields.get(f).room - d.used(f) < p.given.length()) {
                        throw new Wrong(r.begins.get(at));
                    }
                    d.put(d.people.size() - 1, f, d.deep(d.people.size() - 1, f));
                }
            }
            case "debt" -> {
                if (d.debts.size() == 8) {
                    throw r.wrong();
                }
                r.i++;
                int a = r.number(0, d.people.size() - 1);
                int at = r.i;
                int b = r.number(0, d.people.size() - 1);
                if (a == b) {
                    throw new Wrong(r.begins.get(at));
                }
                d.debts.add(new Debt(a, b, r.number(1, 99)));
            }
            case "flakes", "fall", "hares", "wind", "day" -> {
                r.i++;
                d.set.put(word, r.number(word.equals("flakes") ? 1 : 0,
                        word.equals("flakes") ? 9 : word.equals("day") ? 999 : 100));
            }
            default -> throw r.wrong();
        }
    }

    int law() {
        Reading r = new Reading(use());
        List<Line> lines = new ArrayList<>();
        fault = NONE;
        try {
            if (!r.is("")) {
                do {
                    if (lines.size() == 12 || !r.peek().matches("melt|keep|deep")) {
                        throw r.wrong();
                    }
                    String kind = r.peek();
                    r.i++;
                    int n = r.number(0, 40);
                    lines.add(new Line(kind, n, r.eat("if") ? either(r, 0) : (a, b) -> true));
                } while (r.eat(";"));
                if (!r.is("")) {
                    throw r.wrong();
                }
            }
        } catch (Wrong w) {
            fault = w.at;
            throw new IllegalArgumentException();
        }
        s.law = lines;
        undone.clear();
        return lines.size();
    }

    private static BiPredicate<State, int[]> either(Reading r, int deep) {
        BiPredicate<State, int[]> c = both(r, deep);
        while (r.eat("or")) {
            c = c.or(both(r, deep));
        }
        return c;
    }

    private static BiPredicate<State, int[]> both(Reading r, int deep) {
        BiPredicate<State, int[]> c = atom(r, deep);
        while (r.eat("and")) {
            c = c.and(atom(r, deep));
        }
        return c;
    }

    private static BiPredicate<State, int[]> atom(Reading r, int deep) {
        if ((r.is("not") || r.is("(")) && deep == 6) {
            throw r.wrong();
        }
        if (r.eat("not")) {
            return atom(r, deep + 1).negate();
        }
        if (r.eat("(")) {
            BiPredicate<State, int[]> c = either(r, deep + 1);
            r.must(")");
            return c;
        }
        if (r.eat("written")) {
            return (t, pf) -> t.people.get(pf[0]).on >= 0;
        }
        if (r.eat("whole")) {
            return (t, pf) -> t.people.get(pf[0]).whole();
        }
        if (r.eat("owes")) {
            return (t, pf) -> t.owes(pf[0]) > 0;
        }
        ToIntBiFunction<State, int[]> a = sum(r);
        boolean less = r.is("<");
        if (!less && !r.is(">")) {
            throw r.wrong();
        }
        r.i++;
        ToIntBiFunction<State, int[]> b = sum(r);
        return (t, pf) -> less ? a.applyAsInt(t, pf) < b.applyAsInt(t, pf) : a.applyAsInt(t, pf) > b.applyAsInt(t, pf);
    }

    private static ToIntBiFunction<State, int[]> sum(Reading r) {
        List<ToIntBiFunction<State, int[]>> parts = new ArrayList<>();
        do {
            parts.add(part(r));
        } while (r.eat("+"));
        return (t, pf) -> parts.stream().mapToInt(p -> p.applyAsInt(t, pf)).sum();
    }

    private static ToIntBiFunction<State, int[]> part(Reading r) {
        if (r.peek().matches("[0-9]+")) {
            int n = r.number(0, 999);
            return (t, pf) -> n;
        }
        String word = r.peek();
        if (!word.matches("person|field|slope|snow|letters|debts|day")) {
            throw r.wrong();
        }
        r.i++;
        return (t, pf) -> switch (word) {
            case "person" -> pf[0];
            case "field" -> pf[1];
            case "slope" -> t.fields.get(pf[1]).slope;
            case "snow" -> t.fields.get(pf[1]).snow;
            case "letters" -> t.people.get(pf[0]).given.length();
            case "debts" -> t.owes(pf[0]);
            default -> t.set.get("day") % 100;
        };
    }

    int fault() {
        return fault;
    }

    private void isField(int f) {
        if (f < 0 || f >= s.fields.size()) {
            throw new IndexOutOfBoundsException();
        }
    }

    private void isPerson(int p) {
        if (p < 0 || p >= s.people.size()) {
            throw new IndexOutOfBoundsException();
        }
    }

    private static void must(boolean b) {
        if (!b) {
            throw new IllegalArgumentException();
        }
    }

    private static void can(boolean b) {
        if (!b) {
            throw new IllegalStateException();
        }
    }

    private static void is(boolean b) {
        if (!b) {
            throw new NoSuchElementException();
        }
    }

    int field(int f, int what) {
        isField(f);
        is(what >= 0 && what <= 4);
        Field x = s.fields.get(f);
        return new int[] {x.slope, x.snow, x.room, s.used(f), s.bits(p -> p.on == f)}[what];
    }

    int person(int p, int what) {
        isPerson(p);
        Person q = s.people.get(p);
        return switch (what) {
            case 0 -> q.given.length();
            case 1 -> q.on;
            case 2 -> q.read().length();
            case 3 -> q.whole() ? 1 : 0;
            case 4 -> isOf(p);
            case 5 -> lasts(s, p);
            case 6 -> longest(p);
            case 7 -> s.owes(p) - s.owed(p);
            case 8 -> {
                int all = s.debts.stream().mapToInt(d -> d.sum).sum();
                yield all == 0 ? 0 : s.owes(p) * 100 / all;
            }
            default -> throw new NoSuchElementException();
        };
    }

    private int isOf(int p) {
        Person q = s.people.get(p);
        if (q.on < 0) {
            return NONE;
        }
        if (q.given.equals(q.read())) {
            return p;
        }
        for (int i = 0; i < s.people.size(); i++) {
            if (s.people.get(i).given.equals(q.read())) {
                return i;
            }
        }
        return NONE;
    }

    private static int lasts(State t, int p) {
        State c = t.copy();
        for (int n = 0; n <= 60; n++) {
            if (!c.people.get(p).whole()) {
                return n;
            }
            c = c.in(1);
        }
        return NONE;
    }

    private int longest(int p) {
        int best = NONE;
        int most = -1;
        for (int f = 0; f < s.fields.size(); f++) {
            if (s.fields.get(f).snow > 0) {
                State c = s.copy();
                c.put(p, f, s.deep(p, f));
                int n = lasts(c, p);
                n = n == NONE ? 1000 : n;
                if (n > most) {
                    most = n;
                    best = f;
                }
            }
        }
        return best;
    }

    int letter(int p, int k, int what) {
        isPerson(p);
        is(what >= 0 && what <= 3);
        Person q = s.people.get(p);
        String of = what == 0 ? q.given : q.on < 0 ? "" : what == 3 ? q.read() : new String(q.marks);
        if (k < 0 || k >= of.length()) {
            return NONE;
        }
        return what == 2 ? q.depth[k] : of.charAt(k) - 'a';
    }

    int debt(int d, int what) {
        if (d < 0 || d >= s.debts.size()) {
            throw new IndexOutOfBoundsException();
        }
        is(what >= 0 && what <= 2);
        Debt x = s.debts.get(d);
        return what == 0 ? x.from : what == 1 ? x.to : x.sum;
    }

    int melts(int p, int f) {
        isPerson(p);
        isField(f);
        return s.melts(p, f);
    }

    int deep(int p, int f) {
        isPerson(p);
        isField(f);
        return s.deep(p, f);
    }

    private void act() {
        undone.addLast(s.copy());
        if (undone.size() > 12) {
            undone.removeFirst();
        }
    }

    int days(int n) {
        must(n >= 1 && n <= 60);
        act();
        int snowed = 0;
        for (int i = 0; i < n; i++) {
            snowed += s.day() ? 1 : 0;
        }
        return snowed;
    }

    int write(int p, int f) {
        isPerson(p);
        isField(f);
        Person q = s.people.get(p);
        int used = 0;
        for (Person o : s.people) {
            used += o != q && o.on == f ? o.given.length() : 0;
        }
        can(s.fields.get(f).snow > 0 && used + q.given.length() <= s.fields.get(f).room);
        act();
        int deep = s.deep(p, f);
        s.put(p, f, deep);
        s.row(p, 0, f);
        return deep;
    }

    int strike(int p) {
        isPerson(p);
        int f = s.people.get(p).on;
        can(f >= 0);
        act();
        s.people.get(p).on = NONE;
        s.row(p, 1, f);
        return f;
    }

    int tread(int p, int n) {
        isPerson(p);
        must(n >= 1 && n <= 9);
        can(s.people.get(p).on >= 0);
        act();
        int[] d = s.people.get(p).depth;
        for (int i = 0; i < d.length; i++) {
            d[i] = d[i] == 0 ? 0 : Math.min(9, d[i] + n);
        }
        return Arrays.stream(d).max().getAsInt();
    }

    int lend(int p, int o, int n) {
        isPerson(p);
        isPerson(o);
        must(p != o && n >= 1 && n <= 99);
        can(s.debts.size() < 8);
        act();
        s.debts.add(new Debt(p, o, n));
        return s.debts.size() - 1;
    }

    int pay(int d) {
        if (d < 0 || d >= s.debts.size()) {
            throw new IndexOutOfBoundsException();
        }
        Debt x = s.debts.get(d);
        can(s.people.get(x.from).whole() && s.people.get(x.to).whole());
        act();
        s.debts.remove(d);
        return x.sum;
    }

    int slope(int f, int n) {
        isField(f);
        must(n >= 0 && n <= 9);
        act();
        int was = s.fields.get(f).slope;
        s.fields.get(f).slope = n;
        return was;
    }

    int snow(int f, int n) {
        isField(f);
        must(n >= 1 && n <= 99);
        act();
        Field x = s.fields.get(f);
        return x.snow = x.snow + n > 99 ? 99 : x.snow + n;
    }

    int till(int n, int person) {
        if (person != NONE) {
            isPerson(person);
        }
        must(n >= 1 && n <= 60);
        int people = s.people.size();
        int fields = s.fields.size();
        boolean[][] whole = new boolean[people][fields + 1];
        for (int p = 0; p < people; p++) {
            for (int f = 0; f < fields; f++) {
                if (s.fields.get(f).snow > 0) {
                    State c = s.copy();
                    c.put(p, f, s.deep(p, f));
                    whole[p][f] = c.in(n).people.get(p).whole();
                }
            }
        }
        int ways = 1;
        for (int p = 0; p < people; p++) {
            ways *= fields + 1;
        }
        int most = -1;
        int[] where = new int[people];
        for (int way = 0; way < ways; way++) {
            int[] at = new int[people];
            int[] used = new int[fields + 1];
            int rest = way;
            int count = 0;
            boolean good = true;
            for (int p = people - 1; p >= 0; p--) {
                at[p] = rest % (fields + 1);
                rest /= fields + 1;
            }
            for (int p = 0; p < people; p++) {
                used[at[p]] += s.people.get(p).given.length();
                count += whole[p][at[p]] ? 1 : 0;
                good &= at[p] == fields
                        || s.fields.get(at[p]).snow > 0 && used[at[p]] <= s.fields.get(at[p]).room;
            }
            if (good && count > most) {
                most = count;
                where = at;
            }
        }
        return person == NONE ? most : where[person] == fields ? NONE : where[person];
    }

    private List<int[]> rows() {
        String t = use();
        must(t.length() % 2 == 0 && t.length() <= 40);
        List<int[]> rows = new ArrayList<>();
        for (int i = 0; i < t.length(); i += 2) {
            must(t.charAt(i) < 6 && t.charAt(i + 1) < 8);
            rows.add(new int[] {t.charAt(i), t.charAt(i + 1)});
        }
        return rows;
    }

    private static char at(String name, int place) {
        return (name + "??????").charAt(place);
    }

    private long wrong(int p, List<int[]> rows) {
        return rows.stream().filter(r -> at(s.people.get(p).given, r[0]) != 'a' + r[1]).count();
    }

    private List<Integer> fit(List<int[]> rows) {
        List<Integer> all = new ArrayList<>();
        for (int p = 0; p < s.people.size(); p++) {
            if (wrong(p, rows) < 2) {
                all.add(p);
            }
        }
        return all;
    }

    int who() {
        return fit(rows()).stream().mapToInt(p -> 1 << p).sum();
    }

    int likely() {
        List<int[]> rows = rows();
        for (int w = 0; w < 2; w++) {
            for (int p : fit(rows)) {
                if (wrong(p, rows) == w) {
                    return p;
                }
            }
        }
        return NONE;
    }

    int look() {
        List<Integer> fit = fit(rows());
        int best = NONE;
        int least = 100;
        for (int place = 0; place < 6 && fit.size() > 1; place++) {
            Map<Character, Integer> parts = new HashMap<>();
            for (int p : fit) {
                parts.merge(at(s.people.get(p).given, place), 1, Integer::sum);
            }
            int greatest = parts.values().stream().max(Integer::compare).get();
            if (greatest < least) {
                least = greatest;
                best = place;
            }
        }
        return best;
    }

    int places() {
        for (int n = 0; n <= 6; n++) {
            for (int set = 0; set < 64; set++) {
                if (Integer.bitCount(set) == n) {
                    TreeSet<String> seen = new TreeSet<>();
                    for (Person p : s.people) {
                        StringBuilder b = new StringBuilder();
                        for (int i = 0; i < 6; i++) {
                            b.append((set >> i & 1) == 1 ? at(p.given, i) : '-');
                        }
                        seen.add(b.toString());
                    }
                    if (seen.size() == s.people.size()) {
                        return set;
                    }
                }
            }
        }
        return NONE;
    }

    int change(int p, int q) {
        isPerson(p);
        isPerson(q);
        return change(s.people.get(p).given, s.people.get(q).given);
    }

    private static int change(String a, String b) {
        if (a.isEmpty() || b.isEmpty()) {
            return a.length() + b.length();
        }
        int same = change(a.substring(1), b.substring(1)) + (a.charAt(0) == b.charAt(0) ? 0 : 1);
        return Math.min(same, 1 + Math.min(change(a.substring(1), b), change(a, b.substring(1))));
    }

    boolean mixed(int p, int q) {
        isPerson(p);
        isPerson(q);
        return mixed(s.people.get(p).given, s.people.get(q).given);
    }

    private static boolean mixed(String a, String b) {
        for (int i = 0; i < a.length(); i++) {
            char[] c = a.toCharArray();
            c[i] = "bcdefgha".charAt(c[i] - 'a');
            char[] d = b.toCharArray();
            if (i < d.length) {
                d[i] = "bcdefgha".charAt(d[i] - 'a');
            }
            if (b.equals(new String(c)) || a.equals(new String(d))) {
                return true;
            }
        }
        return false;
    }

    int safe() {
        int best = 0;
        for (int set = (1 << s.people.size()) - 1; set >= 0; set--) {
            boolean good = true;
            for (int p = 0; p < s.people.size(); p++) {
                for (int q = 0; q < p; q++) {
                    good &= (set >> p & set >> q & 1) == 0 || !mixed(p, q);
                }
            }
            if (good && Integer.bitCount(set) >= Integer.bitCount(best)) {
                best = set;
            }
        }
        return best;
    }

    int together(int p, int q, int k) {
        isPerson(p);
        isPerson(q);
        must(p != q);
        String a = s.people.get(p).given;
        String b = s.people.get(q).given;
        String best = a + b;
        for (int n = 0; n <= a.length(); n++) {
            String row = a.substring(0, n) + b;
            if (row.contains(a) && row.startsWith(a) && row.length() < best.length()) {
                best = row;
            }
        }
        for (int n = 0; n <= b.length(); n++) {
            String row = b.substring(0, n) + a;
            if (row.startsWith(b) && row.length() < best.length()) {
                best = row;
            }
        }
        best = a.contains(b) ? a : b.contains(a) ? b : best;
        return k == NONE ? best.length() : k < 0 || k >= best.length() ? NONE : best.charAt(k) - 'a';
    }

    /** Tries every partition of the people into groups that are 0 together. */
    int settle() {
        int[] owes = new int[s.people.size()];
        for (int p = 0; p < owes.length; p++) {
            owes[p] = s.owes(p) - s.owed(p);
        }
        return s.people.size() - groups(owes, (1 << owes.length) - 1);
    }

    private static int groups(int[] owes, int left) {
        if (left == 0) {
            return 0;
        }
        int best = Integer.MIN_VALUE;
        for (int set = left; set > 0; set = set - 1 & left) {
            int sum = 0;
            for (int p = 0; p < owes.length; p++) {
                sum += (set >> p & 1) * owes[p];
            }
            if (sum == 0 && (set & Integer.lowestOneBit(left)) != 0) {
                best = Math.max(best, 1 + groups(owes, left & ~set));
            }
        }
        return best;
    }

    int ring() {
        int best = NONE;
        for (int p = 0; p < s.people.size(); p++) {
            int n = walk(p, p, 0);
            if (n > 0 && (best == NONE || n < best)) {
                best = n;
            }
        }
        return best;
    }

    private int walk(int from, int to, int been) {
        int best = 0;
        for (Debt d : s.debts) {
            if (d.from == from && (been >> d.to & 1) == 0) {
                int n = d.to == to ? 1 : walk(d.to, to, been | 1 << d.to);
                n = d.to == to || n == 0 ? n : n + 1;
                if (n > 0 && (best == 0 || n < best)) {
                    best = n;
                }
            }
        }
        return best;
    }

    int poorest() {
        int best = NONE;
        for (int p = s.people.size() - 1; p >= 0; p--) {
            if (best == NONE || s.owes(p) - s.owed(p) >= s.owes(best) - s.owed(best)) {
                best = p;
            }
        }
        return best;
    }

    int clear() {
        int b = 0;
        for (int p = 0; p < s.people.size(); p++) {
            b += s.owes(p) + s.owed(p) == 0 ? 1 << p : 0;
        }
        return b;
    }

    private final Map<String, Boolean> known = new HashMap<>();

    /** Whether the child whose turn it is loses; runs are of x, with - for what was struck. */
    private boolean loses(List<String> runs) {
        List<String> parts = new ArrayList<>();
        for (String r : runs) {
            for (String part : r.split("-")) {
                if (!part.isEmpty()) {
                    parts.add(part);
                }
            }
        }
        parts.sort(null);
        String name = parts.toString();
        if (!known.containsKey(name)) {
            known.put(name, strikeOf(parts) == NONE);
        }
        return known.get(name);
    }

    private int strikeOf(List<String> runs) {
        for (int p = 0; p < runs.size(); p++) {
            String r = runs.get(p);
            for (int at = 0; at < r.length(); at++) {
                for (int n = 1; n <= 2 && at + n <= r.length(); n++) {
                    List<String> next = new ArrayList<>(runs);
                    next.set(p, r.substring(0, at) + "--".substring(0, n) + r.substring(at + n));
                    if (loses(next)) {
                        return 100 * p + 10 * at + n;
                    }
                }
            }
        }
        return NONE;
    }

    int first() {
        List<String> runs = new ArrayList<>();
        for (Person p : s.people) {
            runs.add("x".repeat(p.read().length()));
        }
        return strikeOf(runs);
    }

    boolean wins() {
        return first() != NONE;
    }

    int pairs(int person) {
        if (person != NONE) {
            isPerson(person);
        }
        List<int[]> ways = new ArrayList<>();
        int[] none = new int[s.people.size()];
        Arrays.fill(none, NONE);
        pairings(none, 0, ways);
        ways.sort(Arrays::compare);
        int[] best = none;
        for (int[] way : ways) {
            if (worth(way) > worth(best)) {
                best = way;
            }
        }
        return person == NONE ? worth(best) : best[person];
    }

    private static void pairings(int[] with, int from, List<int[]> ways) {
        ways.add(with.clone());
        for (int p = from; p < with.length; p++) {
            for (int q = p + 1; q < with.length; q++) {
                if (with[p] == NONE && with[q] == NONE) {
                    int[] more = with.clone();
                    more[p] = q;
                    more[q] = p;
                    pairings(more, p + 1, ways);
                }
            }
        }
    }

    private int worth(int[] with) {
        int sum = 0;
        for (int p = 0; p < with.length; p++) {
            for (char c = 'a'; c <= 'h' && with[p] > p; c++) {
                if (s.people.get(p).given.indexOf(c) >= 0 && s.people.get(with[p]).given.indexOf(c) >= 0) {
                    sum++;
                }
            }
        }
        return sum;
    }

    int share(int f, int n) {
        isField(f);
        must(n >= 0 && n <= 99);
        int[] has = new int[s.fields.size()];
        for (int i = 0; i < n; i++) {
            int best = 0;
            for (int g = 1; g < has.length; g++) {
                if (s.fields.get(g).room / (has[g] + 1) > s.fields.get(best).room / (has[best] + 1)) {
                    best = g;
                }
            }
            has[best]++;
        }
        return has[f];
    }

    int rests(int p, int f) {
        isPerson(p);
        isField(f);
        int deep = s.deep(p, f);
        int[] clerk = {deep - s.melts(p, f), deep, 0, 1};
        int[] sun = {2, 1, -s.fields.get(f).slope, 0};
        int b = 0;
        for (int i = 0; i < 4; i++) {
            b += clerk[i ^ 2] <= clerk[i] && sun[i ^ 1] <= sun[i] ? 1 << i : 0;
        }
        return b;
    }

    /** Counts all courses of n days of a hundred sorts each, of which so many bring hares. */
    int odds(int n, int k) {
        must(n >= 0 && n <= 5 && k >= 0 && k <= 5);
        long h = s.set.get("hares");
        long good = 0;
        long all = 1;
        for (int i = 0; i < n; i++) {
            all *= 100;
        }
        for (int course = 0; course < 1 << n; course++) {
            long ways = 1;
            for (int i = 0; i < n; i++) {
                ways *= (course >> i & 1) == 1 ? h : 100 - h;
            }
            good += Integer.bitCount(course) >= k ? ways : 0;
        }
        return (int) (good * 10000 / all);
    }

    int most(int what) {
        is(what >= 0 && what <= 2);
        int best = NONE;
        int n = what == 2 ? s.people.size() : s.fields.size();
        int[] of = new int[n];
        for (int i = 0; i < n; i++) {
            of[i] = what == 2 ? s.people.get(i).given.length()
                    : what == 1 ? s.fields.get(i).snow : s.fields.get(i).room - s.used(i);
            best = best == NONE || of[i] > of[best] ? i : best;
        }
        return best;
    }

    int written(boolean whole) {
        return s.bits(p -> whole ? p.whole() : p.on >= 0);
    }

    int twins() {
        int n = 0;
        for (Person p : s.people) {
            for (Person q : s.people) {
                n += p != q && p.given.equals(q.given) ? 1 : 0;
            }
        }
        return n / 2;
    }

    int having(int letter) {
        if (letter < 0 || letter > 7) {
            throw new IndexOutOfBoundsException();
        }
        return s.bits(p -> p.given.indexOf('a' + letter) >= 0);
    }

    int ahead(int f, int n, boolean people) {
        isField(f);
        must(n >= 0 && n <= 60);
        State c = s.in(n);
        return people ? c.bits(p -> p.on == f) : c.fields.get(f).snow;
    }

    int trial(int n, boolean snow) {
        must(n >= 0 && n <= 60);
        State c = s.copy();
        for (int i = 0; i < n; i++) {
            c.day();
        }
        return snow ? c.allSnow() : c.bits(p -> p.on >= 0);
    }

    int span(int n, boolean most) {
        must(n >= 0 && n <= 60);
        List<Integer> all = new ArrayList<>();
        for (int seed = 1; seed <= 6; seed++) {
            State c = s.copy();
            c.seed = seed;
            for (int i = 0; i < n; i++) {
                c.day();
            }
            all.add((int) c.people.stream().filter(Person::whole).count());
        }
        all.sort(null);
        return most ? all.get(5) : all.get(0);
    }

    int led(int p, boolean day) {
        isPerson(p);
        List<Row> of = s.log.stream().filter(r -> r.person == p).toList();
        return !day ? of.size() : of.isEmpty() ? NONE : of.get(of.size() - 1).day;
    }

    int log(int ago, int what) {
        is(what >= 0 && what <= 3);
        if (ago < 0 || ago >= s.log.size()) {
            return NONE;
        }
        Row r = s.log.get(s.log.size() - 1 - ago);
        return new int[] {r.day, r.person, r.what, r.field}[what];
    }

    int seed(int n) {
        int was = s.seed;
        s.seed = n;
        return was;
    }

    boolean undo() {
        if (undone.isEmpty()) {
            return false;
        }
        s = undone.removeLast();
        return true;
    }

    void image() {
        kept = s.copy();
    }

    boolean back() {
        if (kept == null) {
            return false;
        }
        s = kept.copy();
        undone.clear();
        return true;
    }

    int count(int what) {
        return switch (what) {
            case 0 -> s.fields.size();
            case 1 -> s.people.size();
            case 2 -> s.debts.size();
            case 3 -> s.texts;
            case 4 -> s.law == null ? NONE : s.law.size();
            case 5 -> s.set.get("flakes");
            case 6 -> s.set.get("fall");
            case 7 -> s.set.get("hares");
            case 8 -> s.set.get("wind");
            case 9 -> s.set.get("day");
            case 10 -> s.allSnow();
            case 11 -> s.log.size();
            case 12 -> undone.size();
            default -> NONE;
        };
    }
}

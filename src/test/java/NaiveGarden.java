import java.util.ArrayDeque;
import java.util.ArrayList;
import java.util.Deque;
import java.util.List;
import java.util.function.IntBinaryOperator;

/**
 * The document once more, written for plainness alone: every search tries all rows, every LAW is walked as a tree.
 * RandomRunsTest holds CliffGarden against it.
 */
final class NaiveGarden {
    static final class Cell {
        boolean hangs;
        int knot;
        int soil;
        int farmer;
        int way;
        int kind = -1;
        int weight;
        int caught;
        int kept;
        boolean pollinated;

        Cell copy() {
            Cell c = new Cell();
            c.hangs = hangs;
            c.knot = knot;
            c.soil = soil;
            c.farmer = farmer;
            c.way = way;
            c.kind = kind;
            c.weight = weight;
            c.caught = caught;
            c.kept = kept;
            c.pollinated = pollinated;
            return c;
        }
    }

    record Fall(int column, int level, int kind, int weight, int ripe, int pollinated, int lies, int day, int food,
            int[] whose) {
    }

    static final class Refused extends RuntimeException {
        private static final long serialVersionUID = 1L;
    }

    interface Num {
        int of(int[] by);
    }

    interface Cond {
        boolean of(int[] by);
    }

    record Clause(char letter, Num e, Cond c) {
    }

    Cell[][] cells = new Cell[8][6];
    int[] need = {1, 1, 1, 1, 1, 1};
    int[] ripe = {50, 50, 50, 50, 50, 50};
    int[] worth = {1, 1, 1, 1, 1, 1};
    int[] valve = new int[8];
    int[] owner = new int[8];
    int[] roof = {9999, 9999, 9999, 9999, 9999, 9999, 9999, 9999};
    int[] drops = new int[8];
    int[] holes = new int[8];
    int[] bears = new int[8];
    int[] hour = {1, 1, 1, 1, 1, 1, 1, 1};
    int[] food = new int[8];
    int day;
    int x = 1;
    List<Integer> tape = new ArrayList<>();
    List<Fall> falls = new ArrayList<>();
    int happened;
    List<Clause> laws = new ArrayList<>();

    NaiveGarden() {
        for (Cell[] column : cells) {
            for (int l = 0; l < 6; l++) {
                column[l] = new Cell();
            }
        }
    }

    static boolean in(int v, int lo, int hi) {
        return v >= lo && v <= hi;
    }

    boolean isCell(int c, int l) {
        return in(c, 0, 7) && in(l, 0, 5);
    }

    boolean hangs(int c, int l) {
        return isCell(c, l) && cells[c][l].hangs;
    }

    // ---- what is told

    boolean hang(int c, int l, int soil, int knot, int farmer, int way) {
        if (!isCell(c, l) || !in(soil, 0, 9) || !in(knot, 0, 9999) || !in(farmer, 0, 7) || !in(way, 0, 3)) {
            return false;
        }
        if (hangs(c, l) || l > 0 && !hangs(c, l - 1)) {
            return false;
        }
        Cell n = new Cell();
        n.hangs = true;
        n.soil = soil;
        n.knot = knot;
        n.farmer = farmer;
        n.way = way;
        cells[c][l] = n;
        return true;
    }

    boolean knot(int c, int l, int n) {
        if (!hangs(c, l) || !in(n, 0, 9999)) {
            return false;
        }
        cells[c][l].knot = n;
        return true;
    }

    boolean kind(int k, int n, int r, int w) {
        if (!in(k, 0, 5) || !in(n, 0, 20) || !in(r, 1, 200) || !in(w, 0, 99)) {
            return false;
        }
        need[k] = n;
        ripe[k] = r;
        worth[k] = w;
        return true;
    }

    boolean plant(int c, int l, int k, int w) {
        if (!hangs(c, l) || !in(k, 0, 5) || !in(w, 0, 200) || cells[c][l].kind >= 0) {
            return false;
        }
        cells[c][l].kind = k;
        cells[c][l].weight = w;
        cells[c][l].pollinated = false;
        return true;
    }

    boolean valve(int c, int d) {
        if (!in(c, 0, 7) || !in(d, 0, 99)) {
            return false;
        }
        valve[c] = d;
        return true;
    }

    boolean kitchen(int c, int o, int r) {
        if (!in(c, 0, 7) || !in(o, 0, 7) || !in(r, 0, 9999)) {
            return false;
        }
        owner[c] = o;
        roof[c] = r;
        return true;
    }

    boolean rope(int c, int b, int w) {
        if (!in(c, 0, 7) || !in(b, 0, 999) || !in(w, 0, 99)) {
            return false;
        }
        bears[c] = b;
        hour[c] = w;
        return true;
    }

    boolean seed(int s) {
        if (!in(s, 0, 65535)) {
            return false;
        }
        x = s;
        return true;
    }

    // ---- the tape and THE LAW

    int feed(int... ints) {
        if (tape.size() + 20 > 220) {
            return -1;
        }
        for (int i : ints) {
            for (int s = 24; s >= 0; s -= 8) {
                tape.add(i >>> s & 255);
            }
        }
        return tape.size();
    }

    int law(int n) {
        if (!in(n, 1, 200) || n > tape.size()) {
            return -1;
        }
        StringBuilder text = new StringBuilder();
        for (int i = 0; i < n; i++) {
            text.append((char) (int) tape.get(i));
        }
        tape.clear();
        int fault = fault(text.toString());
        if (fault != 0) {
            return fault;
        }
        laws = new Tree(text.toString()).clauses();
        return laws.size();
    }

    /** Goes over the signs one by one with the openers as a stack; what is due next is a mode. */
    static int fault(String t) {
        Deque<Character> open = new ArrayDeque<>();
        char mode = 'L';
        int clauses = 0;
        int digits = 0;
        boolean right = false;
        for (int i = 0; i <= t.length(); i++) {
            int ch = i < t.length() ? t.charAt(i) : 0;
            boolean digit = ch >= '0' && ch <= '9';
            int wrong = -1000 - i;
            if (i == t.length()) {
                return mode == 'Z' ? 0 : wrong;
            }
            if (mode == 'L') {
                if ("gfacoq".indexOf(ch) < 0) {
                    return wrong;
                }
                if (++clauses == 15) {
                    return -4000 - i;
                }
                mode = 'F';
            } else if (mode == 'Z') {
                if (ch != ';') {
                    return wrong;
                }
                mode = 'L';
            } else if (mode == 'F' || mode == 'P') {
                boolean opens = ch == '[' || mode == 'P' && (ch == '(' || ch == '!');
                if (opens) {
                    if (open.size() == 6) {
                        return -5000 - i;
                    }
                    open.push((char) ch);
                    mode = ch == '[' ? 'F' : 'P';
                } else if (digit) {
                    digits = 1;
                    mode = 'D';
                } else if ("kyxlsnjwrpdtmb".indexOf(ch) >= 0) {
                    mode = 'A';
                } else {
                    return wrong;
                }
                if (mode == 'P') {
                    right = false;
                }
            } else if (mode == 'D' && digit) {
                if (++digits == 6) {
                    return -2000 - i;
                }
            } else if (mode != 'Q' && "+-*/%".indexOf(ch) >= 0) {
                mode = 'F';
            } else if (mode != 'Q' && open.peek() != null && open.peek() == '[') {
                if (ch != ']') {
                    return wrong;
                }
                open.pop();
                mode = 'A';
            } else if (mode != 'Q' && open.isEmpty()) {
                if (ch != '(') {
                    return wrong;
                }
                open.push('(');
                mode = 'P';
                right = false;
            } else if (mode != 'Q' && !right) {
                if ("<>=".indexOf(ch) < 0) {
                    return wrong;
                }
                right = true;
                mode = 'F';
            } else {
                if ("&|)".indexOf(ch) < 0) {
                    return wrong;
                }
                while (open.peek() == '!') {
                    open.pop();
                }
                mode = 'P';
                right = false;
                if (ch == ')') {
                    open.pop();
                    mode = open.isEmpty() ? 'Z' : 'Q';
                }
            }
        }
        return 0;
    }

    /** A right TEXT as trees. */
    static final class Tree {
        final String t;
        int at;

        Tree(String t) {
            this.t = t;
        }

        char look() {
            return at < t.length() ? t.charAt(at) : 0;
        }

        List<Clause> clauses() {
            List<Clause> all = new ArrayList<>();
            while (at < t.length()) {
                char letter = t.charAt(at++);
                Num e = sum();
                at++;
                Cond c = or();
                at++;
                at++;
                all.add(new Clause(letter, e, c));
            }
            return all;
        }

        Cond or() {
            List<Cond> parts = new ArrayList<>(List.of(and()));
            while (look() == '|') {
                at++;
                parts.add(and());
            }
            return by -> {
                for (Cond p : parts) {
                    if (p.of(by)) {
                        return true;
                    }
                }
                return false;
            };
        }

        Cond and() {
            List<Cond> pieces = new ArrayList<>(List.of(piece()));
            while (look() == '&') {
                at++;
                pieces.add(piece());
            }
            return by -> {
                for (Cond p : pieces) {
                    if (!p.of(by)) {
                        return false;
                    }
                }
                return true;
            };
        }

        Cond piece() {
            if (look() == '!') {
                at++;
                Cond c = piece();
                return by -> !c.of(by);
            }
            if (look() == '(') {
                at++;
                Cond c = or();
                at++;
                return c;
            }
            Num a = sum();
            char op = t.charAt(at++);
            Num b = sum();
            return by -> {
                int l = a.of(by);
                int r = b.of(by);
                return op == '<' ? l < r : op == '>' ? l > r : l == r;
            };
        }

        Num sum() {
            Num left = term();
            while (look() == '+' || look() == '-') {
                char op = t.charAt(at++);
                left = join(left, term(), op == '+' ? (a, b) -> a + b : (a, b) -> a - b);
            }
            return left;
        }

        Num term() {
            Num left = factor();
            while (look() == '*' || look() == '/' || look() == '%') {
                char op = t.charAt(at++);
                left = join(left, factor(), op == '*' ? (a, b) -> a * b : (a, b) -> {
                    if (b == 0) {
                        throw new Refused();
                    }
                    return op == '/' ? a / b : a % b;
                });
            }
            return left;
        }

        static Num join(Num a, Num b, IntBinaryOperator op) {
            return by -> {
                int l = a.of(by);
                return op.applyAsInt(l, b.of(by));
            };
        }

        Num factor() {
            if (look() == '[') {
                at++;
                Num e = sum();
                at++;
                return e;
            }
            if (Character.isDigit(look())) {
                int from = at;
                while (Character.isDigit(look())) {
                    at++;
                }
                int n = Integer.parseInt(t.substring(from, at));
                return by -> n;
            }
            int i = "kyxlsnjwrpdtmb".indexOf(t.charAt(at++));
            return by -> by[i];
        }
    }

    int ask(char letter, int most, int[] by) {
        for (Clause c : laws) {
            boolean holds;
            try {
                holds = c.letter == letter && c.c.of(by);
            } catch (Refused r) {
                holds = false;
            }
            if (holds) {
                try {
                    return Math.max(0, Math.min(most, c.e.of(by)));
                } catch (Refused r) {
                    return 0;
                }
            }
        }
        return 0;
    }

    int[] letters(int c, int l, int k, int y, int r, int p, int m, int b) {
        Cell e = cells[c][l];
        return new int[] {k, y, c, l, e.soil, e.knot, e.farmer, e.kept, r, p, day, owner[c], m, b};
    }

    int[] lettersOwn(int c, int l) {
        Cell e = cells[c][l];
        return e.kind < 0 ? letters(c, l, 0, 0, 0, 0, 0, 0)
                : letters(c, l, e.kind, e.weight, e.weight >= ripe[e.kind] ? 1 : 0, e.pollinated ? 1 : 0, 0, 0);
    }

    // ---- what happens

    int load(int c, int l) {
        int sum = 0;
        for (int i = l; i < 6; i++) {
            Cell e = cells[c][i];
            if (e.hangs) {
                sum += 10 * e.soil + e.weight + e.caught + e.kept;
            }
        }
        return sum;
    }

    int cell(int c, int l, int what) {
        if (!isCell(c, l) || !in(what, 0, 10)) {
            return -1000;
        }
        Cell e = cells[c][l];
        if (what == 0) {
            return e.hangs ? 1 : 0;
        }
        if (!e.hangs) {
            return -1000;
        }
        return new int[] {0, e.knot, e.soil, e.farmer, e.way, e.kind, e.weight, e.caught, e.kept,
            e.pollinated ? 1 : 0, load(c, l)}[what];
    }

    int byLaw(int c, int l, int what) {
        if (!isCell(c, l) || !in(what, 0, 2)) {
            return -1;
        }
        if (!hangs(c, l)) {
            return -2;
        }
        if (what < 2 && cells[c][l].kind < 0) {
            return -1;
        }
        return ask("gfa".charAt(what), new int[] {50, 1000, 999}[what], lettersOwn(c, l));
    }

    int[] flow(int[] valves) {
        int[] coming = valves.clone();
        for (int l = 0; l < 6; l++) {
            int[] next = new int[8];
            for (int c = 0; c < 8; c++) {
                Cell e = cells[c][l];
                e.kept = 0;
                if (!e.hangs) {
                    next[c] += coming[c];
                    continue;
                }
                if (e.kind >= 0) {
                    e.kept = Math.min(need[e.kind], coming[c]);
                }
                int rest = coming[c] - e.kept;
                int left = c == 0 ? 0 : c - 1;
                int right = c == 7 ? 7 : c + 1;
                for (int i = 0; i < rest; i++) {
                    int to = e.way == 0 ? c : e.way == 1 ? left : e.way == 2 ? right : i % 2 == 0 ? left : right;
                    next[to]++;
                }
            }
            coming = next;
        }
        return coming;
    }

    int water() {
        int sum = 0;
        int[] came = flow(valve);
        for (int c = 0; c < 8; c++) {
            drops[c] += came[c];
            sum += came[c];
        }
        return sum;
    }

    int drop(int c, int l, boolean free) {
        Cell e = cells[c][l];
        int k = e.kind;
        int w = e.weight;
        int r = w >= ripe[k] ? 1 : 0;
        int p = e.pollinated ? 1 : 0;
        e.kind = -1;
        e.weight = 0;
        e.pollinated = false;
        int lies = 6;
        for (int i = l + 1; i < 6 && !free; i++) {
            if (cells[c][i].hangs && ask('c', 1, letters(c, i, k, w, r, p, i - l, 0)) > 0) {
                lies = i;
                break;
            }
        }
        int whose = -1;
        int got = 0;
        if (lies < 6) {
            cells[c][lies].caught += w;
        } else {
            whose = ask('o', 7, letters(c, l, k, w, r, p, 6 - l, 0));
            got = w * worth[k];
            food[whose] += got;
            if (w * (6 - l) > roof[c]) {
                holes[c]++;
            }
        }
        happened++;
        if (falls.size() < 60) {
            falls.add(new Fall(c, l, k, w, r, p, lies, day, got, new int[] {whose}));
        }
        return lies;
    }

    int fall(int c, int l) {
        return !hangs(c, l) || cells[c][l].kind < 0 ? -1 : drop(c, l, false);
    }

    int goOne(int c, int l, boolean really) {
        int load = load(c, l);
        int went = 0;
        for (int i = 5; i >= l; i--) {
            Cell e = cells[c][i];
            if (e.hangs) {
                if (e.kind >= 0 && really) {
                    drop(c, i, true);
                }
                went++;
            }
        }
        for (int i = l; i < 6; i++) {
            Cell e = cells[c][i];
            e.hangs = false;
            e.soil = 0;
            e.caught = 0;
        }
        for (int n = c - 1; n <= c + 1; n += 2) {
            if (hangs(n, l)) {
                cells[n][l].knot = Math.max(0, cells[n][l].knot - load / 10);
            }
        }
        return went;
    }

    int goAll(boolean really) {
        for (int c = 0; c < 8; c++) {
            for (int l = 0; l < 6; l++) {
                if (hangs(c, l) && load(c, l) > cells[c][l].knot) {
                    int went = goOne(c, l, really);
                    return went + goAll(really);
                }
            }
        }
        return 0;
    }

    int go() {
        return goAll(true);
    }

    int day() {
        int before = happened;
        water();
        for (int c = 0; c < 8; c++) {
            for (int l = 0; l < 6; l++) {
                if (hangs(c, l) && cells[c][l].kind >= 0) {
                    cells[c][l].weight = Math.min(200, cells[c][l].weight + byLaw(c, l, 0));
                }
            }
        }
        for (int c = 0; c < 8; c++) {
            for (int l = 0; l < 6; l++) {
                if (hangs(c, l) && cells[c][l].kind >= 0) {
                    x = (int) ((25173L * x + 13849L) % 65536L);
                    if (x % 1000 < byLaw(c, l, 1)) {
                        drop(c, l, false);
                    }
                }
            }
        }
        int[] less = new int[48];
        for (int i = 0; i < 48; i++) {
            less[i] = hangs(i / 6, i % 6) ? byLaw(i / 6, i % 6, 2) : 0;
        }
        for (int i = 0; i < 48; i++) {
            cells[i / 6][i % 6].knot = Math.max(0, cells[i / 6][i % 6].knot - less[i]);
        }
        go();
        day++;
        return happened - before;
    }

    Cell[][] copyOfCells() {
        Cell[][] copy = new Cell[8][6];
        for (int i = 0; i < 48; i++) {
            copy[i / 6][i % 6] = cells[i / 6][i % 6].copy();
        }
        return copy;
    }

    long torn(int c, int l) {
        if (!hangs(c, l)) {
            return -1;
        }
        Cell[][] real = cells;
        cells = copyOfCells();
        goOne(c, l, false);
        goAll(false);
        long bits = 0;
        for (int i = 0; i < 48; i++) {
            if (real[i / 6][i % 6].hangs && !hangs(i / 6, i % 6)) {
                bits += 1L << i;
            }
        }
        cells = real;
        return bits;
    }

    int fallIs(int i, int what) {
        if (!in(i, 0, falls.size() - 1) || !in(what, 0, 6)) {
            return -1000;
        }
        Fall f = falls.get(i);
        return new int[] {f.column, f.level, f.kind, f.weight, f.lies, f.whose[0], f.day}[what];
    }

    int claimed(int i, int persons) {
        if (!in(i, 0, falls.size() - 1) || !in(persons, 1, 255)) {
            return -1;
        }
        Fall f = falls.get(i);
        int best = 0;
        int who = -2;
        for (int p = 7; p >= 0; p--) {
            if ((persons & 1 << p) != 0) {
                int q = ask('q', 1000,
                        letters(f.column, f.level, f.kind, f.weight, f.ripe, f.pollinated, f.lies - f.level, p));
                if (q > 0 && q >= best) {
                    best = q;
                    who = p;
                }
            }
        }
        return who;
    }

    int right(int i, int persons) {
        int who = claimed(i, persons);
        if (who < 0 || falls.get(i).lies < 6 || falls.get(i).whose[0] == who) {
            return -1;
        }
        Fall f = falls.get(i);
        food[f.whose[0]] -= f.food;
        food[who] += f.food;
        f.whose[0] = who;
        return f.food;
    }

    int food(int p) {
        return in(p, 0, 7) ? food[p] : -1;
    }

    int kitchenIs(int c, int what) {
        return in(c, 0, 7) && in(what, 0, 3) ? new int[][] {owner, roof, drops, holes}[what][c] : -1;
    }

    // ---- what is best

    int mayWork(int w, int c, int l) {
        return !in(w, 1, 99) || !isCell(c, l) ? -1 : w + 5 * l <= bears[c] ? 1 : 0;
    }

    static List<Integer> told(long bits) {
        List<Integer> all = new ArrayList<>();
        for (int i = 0; i < 64; i++) {
            if ((bits >>> i & 1) != 0) {
                all.add(i);
            }
        }
        return all;
    }

    static boolean areCells(List<Integer> told, int most) {
        return in(told.size(), 1, most) && told.get(told.size() - 1) < 48;
    }

    private int least;
    private int[] leastRow;

    private interface Cost {
        /** Of a row of CELLS that is whole, or -1 if it may not be. */
        int of(int[] row);
    }

    private void permute(int[] row, int from, Cost cost) {
        if (from == row.length) {
            int c = cost.of(row);
            if (c >= 0 && (leastRow == null || c < least || c == least && compare(row, leastRow) < 0)) {
                least = c;
                leastRow = row.clone();
            }
            return;
        }
        for (int i = from; i < row.length; i++) {
            swap(row, from, i);
            permute(row, from + 1, cost);
            swap(row, from, i);
        }
    }

    static void swap(int[] row, int a, int b) {
        int t = row[a];
        row[a] = row[b];
        row[b] = t;
    }

    static int compare(int[] a, int[] b) {
        return java.util.Arrays.compare(a, b);
    }

    int bestRow(List<Integer> told, int what, Cost cost) {
        leastRow = null;
        permute(told.stream().mapToInt(i -> i).toArray(), 0, cost);
        return what == -1 ? least : leastRow[what];
    }

    int work(int w, int c, long cells, int what) {
        List<Integer> told = told(cells);
        if (!in(w, 1, 99) || !in(c, 0, 7) || !areCells(told, 8) || !in(what, -1, told.size() - 1)) {
            return -3;
        }
        for (int t : told) {
            if (mayWork(w, t / 6, t % 6) != 1) {
                return -2;
            }
        }
        return bestRow(told, what, row -> {
            int at = 6 * c;
            int hours = 0;
            for (int next : row) {
                hours += 2 * Math.abs(at / 6 - next / 6) + Math.abs(at % 6 - next % 6) + 1;
                at = next;
            }
            return hours;
        });
    }

    int mended(long bits, int what) {
        List<Integer> told = told(bits);
        if (!areCells(told, 8) || !in(what, -1, told.size() - 1)) {
            return -3;
        }
        for (int t : told) {
            if (hangs(t / 6, t % 6)) {
                return -3;
            }
        }
        return bestRow(told, what, row -> {
            int time = 0;
            int cost = 0;
            for (int i = 0; i < row.length; i++) {
                for (int j = i + 1; j < row.length; j++) {
                    if (row[j] == row[i] - 1 && row[i] % 6 > 0) {
                        return -1;
                    }
                }
                time += 1 + row[i] % 6;
                cost += hour[row[i] / 6] * time;
            }
            return cost;
        });
    }

    long pollen(int from, int to, int k, int steps, int what) {
        if (!in(from, 0, 7) || !in(to, 0, 7) || !in(k, 0, 5) || !in(steps, 1, 12) || !in(what, 0, 1)) {
            return -1;
        }
        boolean[] blooms = new boolean[8];
        for (int i = 0; i < 48; i++) {
            blooms[i / 6] |= hangs(i / 6, i % 6) && cells[i / 6][i % 6].kind == k;
        }
        long all = 1;
        for (int i = 0; i < steps; i++) {
            all *= 3;
        }
        long good = 0;
        for (long way = 0; way < all; way++) {
            int at = from;
            boolean has = blooms[at];
            boolean came = has && at == to;
            long rest = way;
            for (int i = 0; i < steps; i++) {
                at = Math.max(0, Math.min(7, at + (int) (rest % 3) - 1));
                rest /= 3;
                has |= blooms[at];
                came |= has && at == to;
            }
            good += came ? 1 : 0;
        }
        long a = good;
        long b = all;
        while (b != 0) {
            long t = a % b;
            a = b;
            b = t;
        }
        return what == 0 ? good / a : all / a;
    }

    int pollinate(int c, int k) {
        if (!in(c, 0, 7) || !in(k, 0, 5)) {
            return -1;
        }
        int n = 0;
        for (Cell e : cells[c]) {
            if (e.hangs && e.kind == k && !e.pollinated) {
                e.pollinated = true;
                n++;
            }
        }
        return n;
    }

    boolean allBear() {
        for (int i = 0; i < 48; i++) {
            if (hangs(i / 6, i % 6) && load(i / 6, i % 6) > cells[i / 6][i % 6].knot) {
                return false;
            }
        }
        return true;
    }

    int planted(long bits, int what) {
        List<Integer> told = told(bits);
        if (!areCells(told, 5) || !in(what, -1, told.size() - 1) && what != 10) {
            return -3;
        }
        for (int t : told) {
            if (!hangs(t / 6, t % 6) || cells[t / 6][t % 6].kind >= 0) {
                return -3;
            }
        }
        Cell[][] real = cells;
        cells = copyOfCells();
        for (int i = 0; i < 48; i++) {
            Cell e = cells[i / 6][i % 6];
            if (e.hangs && e.kind >= 0) {
                e.weight = Math.max(e.weight, ripe[e.kind]);
            }
        }
        int all = 1;
        for (int i = 0; i < told.size(); i++) {
            all *= 7;
        }
        int best = -1;
        int[] bestKinds = null;
        for (int row = 0; row < all; row++) {
            int[] kinds = new int[told.size()];
            int rest = row;
            for (int i = kinds.length - 1; i >= 0; i--) {
                kinds[i] = rest % 7 - 1;
                rest /= 7;
            }
            int sum = 0;
            boolean hole = false;
            for (int i = 0; i < kinds.length; i++) {
                Cell e = cells[told.get(i) / 6][told.get(i) % 6];
                e.weight = kinds[i] < 0 ? 0 : ripe[kinds[i]];
                sum += kinds[i] < 0 ? 0 : ripe[kinds[i]] * worth[kinds[i]];
                hole |= e.weight * (6 - told.get(i) % 6) > roof[told.get(i) / 6] && kinds[i] >= 0;
            }
            if (sum > best && !hole && allBear()) {
                best = sum;
                bestKinds = kinds;
            }
        }
        cells = real;
        if (bestKinds == null) {
            return -2;
        }
        if (what == 10) {
            for (int i = 0; i < bestKinds.length; i++) {
                if (bestKinds[i] >= 0) {
                    plant(told.get(i) / 6, told.get(i) % 6, bestKinds[i], 0);
                }
            }
        }
        return what == -1 || what == 10 ? best : bestKinds[what];
    }

    int drought(int amount, int columns, int what) {
        List<Integer> told = told(columns & 0xffffffffL);
        if (!in(amount, 0, 36) || !in(columns, 1, 255) || told.size() > 4 || !in(what, -1, told.size() - 1)) {
            return -2;
        }
        Cell[][] real = cells;
        cells = copyOfCells();
        int best = -1;
        int[] bestRow = null;
        int all = (int) Math.pow(10, told.size());
        for (int row = 0; row < all; row++) {
            int[] each = new int[told.size()];
            int[] valves = new int[8];
            int rest = row;
            int sum = 0;
            for (int i = each.length - 1; i >= 0; i--) {
                each[i] = rest % 10;
                valves[told.get(i)] = each[i];
                sum += each[i];
                rest /= 10;
            }
            if (sum > amount) {
                continue;
            }
            flow(valves);
            int g = 0;
            for (int i = 0; i < 48; i++) {
                if (hangs(i / 6, i % 6) && cells[i / 6][i % 6].kind >= 0) {
                    g += byLaw(i / 6, i % 6, 0);
                }
            }
            if (g > best) {
                best = g;
                bestRow = each;
            }
        }
        cells = real;
        return what == -1 ? best : bestRow[what];
    }

    int hail(int kinds) {
        if (!in(kinds, 0, 63)) {
            return -1;
        }
        int n = 0;
        for (int c = 0; c < 8; c++) {
            boolean hit = false;
            for (int l = 0; l < 6; l++) {
                Cell e = cells[c][l];
                hit |= e.hangs && e.kind >= 0 && (kinds & 1 << e.kind) != 0 && 6 - l > roof[c];
            }
            n += hit ? 1 : 0;
        }
        return n;
    }

    int check(int c, int n) {
        if (!in(c, 0, 7) || n < 0 || 4L * n > tape.size()) {
            return -2;
        }
        List<Integer> numbers = new ArrayList<>();
        for (int i = 0; i < n; i++) {
            numbers.add(tape.get(4 * i) << 24 | tape.get(4 * i + 1) << 16 | tape.get(4 * i + 2) << 8
                    | tape.get(4 * i + 3));
        }
        tape.clear();
        for (int i = 0; i < n; i++) {
            if (i == 6) {
                return 6;
            }
            Cell e = cells[c][i];
            if (numbers.get(i) != (e.hangs && e.kind >= 0 ? e.weight : -1)) {
                return i;
            }
        }
        return n == 6 ? -1 : n;
    }

    int count(int what) {
        if (in(what, 10, 17)) {
            return valve[what - 10];
        }
        if (in(what, 20, 37)) {
            return new int[][] {need, ripe, worth}[(what - 20) % 3][(what - 20) / 3];
        }
        int hung = 0;
        int crops = 0;
        for (int i = 0; i < 48; i++) {
            hung += hangs(i / 6, i % 6) ? 1 : 0;
            crops += hangs(i / 6, i % 6) && cells[i / 6][i % 6].kind >= 0 ? 1 : 0;
        }
        return in(what, 0, 6) ? new int[] {hung, day, falls.size(), laws.size(), tape.size(), x, crops}[what] : -1;
    }
}

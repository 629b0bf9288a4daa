import java.util.Random;

/** Drawn runs of calls, each answer held against NaiveGarden's. The draws are the same every time. */
public final class RandomRunsTest {
    private final Random draw;
    private final CliffGarden real = new CliffGarden();
    private final NaiveGarden naive = new NaiveGarden();
    private final StringBuilder told = new StringBuilder();
    private int wrong;

    private RandomRunsTest(long seed) {
        draw = new Random(seed);
    }

    public static void main(String[] args) {
        int runs = args.length > 0 ? Integer.parseInt(args[0]) : 400;
        int bad = 0;
        for (int run = 0; run < runs && bad < 5; run++) {
            RandomRunsTest test = new RandomRunsTest(run);
            test.play(run);
            if (test.wrong > 0) {
                bad++;
                System.out.println("run " + run + ":" + test.told);
            }
        }
        System.out.println(bad == 0 ? runs + " drawn runs are as due" : bad + " drawn runs are not as due");
        if (bad > 0) {
            System.exit(1);
        }
    }

    private void play(int run) {
        boolean heavy = run % 4 == 0;
        begin(run);
        for (int i = 0; i < (heavy ? 120 : 400) && wrong == 0; i++) {
            call(heavy);
            if (i % 40 == 39) {
                compareState();
            }
        }
    }

    private void due(String call, long got, long want) {
        if (told.length() < 20000) {
            told.append("\n  ").append(call).append(" -> ").append(got);
        }
        if (got != want) {
            wrong++;
            told.append("  DUE IS ").append(want);
        }
    }

    /** Most from lo to hi, some beyond. */
    private int near(int lo, int hi) {
        int r = draw.nextInt(60);
        if (r == 0) {
            return lo - 1 - draw.nextInt(2);
        }
        if (r == 1) {
            return hi + 1 + draw.nextInt(2);
        }
        if (r == 2) {
            return draw.nextInt();
        }
        return r < 6 ? lo : r < 9 ? hi : lo + draw.nextInt(hi - lo + 1);
    }

    private void begin(int run) {
        layLaw(goodLaw());
        for (int k = 0; k < 6; k++) {
            kind(k, draw.nextInt(8), 1 + draw.nextInt(run % 3 == 0 ? 200 : 60), draw.nextInt(10));
        }
        for (int c = 0; c < 8; c++) {
            if (draw.nextInt(3) == 0) {
                continue;
            }
            rope(c, draw.nextInt(200), draw.nextInt(12));
            kitchen(c, draw.nextInt(8), draw.nextInt(draw.nextBoolean() ? 10 : 1500));
            valve(c, draw.nextInt(30));
            int deep = draw.nextInt(7);
            for (int l = 0; l < deep; l++) {
                hang(c, l, draw.nextInt(10), draw.nextInt(1200), draw.nextInt(8), draw.nextInt(4));
                if (draw.nextInt(3) > 0) {
                    plant(c, l, draw.nextInt(6), draw.nextInt(120));
                }
            }
        }
    }

    private void call(boolean heavy) {
        int r = draw.nextInt(heavy ? 38 : 32);
        switch (r) {
            case 0, 1 -> hang(near(0, 7), near(0, 5), near(0, 9), near(0, 2000), near(0, 7), near(0, 3));
            case 2 -> knot(near(0, 7), near(0, 5), near(0, draw.nextBoolean() ? 9999 : 500));
            case 3 -> kind(near(0, 5), near(0, 20), near(1, 200), near(0, 99));
            case 4, 5 -> plant(near(0, 7), near(0, 5), near(0, 5), near(0, 200));
            case 6 -> valve(near(0, 7), near(0, 99));
            case 7 -> kitchen(near(0, 7), near(0, 7), near(0, draw.nextBoolean() ? 9999 : 8));
            case 8 -> rope(near(0, 7), near(0, 999), near(0, 99));
            case 9 -> seed(near(0, 65535));
            case 10 -> feed(draw.nextInt(), draw.nextInt(300) - 1, -1, draw.nextInt(), 0);
            case 11 -> layLaw(draw.nextInt(3) == 0 ? spoilt(goodLaw()) : goodLaw());
            case 12 -> law(near(1, 200));
            case 13 -> cell(near(0, 7), near(0, 5), near(0, 10));
            case 14 -> byLaw(near(0, 7), near(0, 5), near(0, 2));
            case 15 -> due("water()", real.water(), naive.water());
            case 16, 17 -> fall(near(0, 7), near(0, 5));
            case 18 -> due("go()", real.go(), naive.go());
            case 19, 20 -> due("day()", real.day(), naive.day());
            case 21, 22 -> torn(near(0, 7), near(0, 5));
            case 23 -> fallIs(near(0, Math.max(1, naive.falls.size())), near(0, 6));
            case 24, 25 -> claimed(near(0, Math.max(1, naive.falls.size())), near(1, 255));
            case 26 -> right(near(0, Math.max(1, naive.falls.size())), near(1, 255));
            case 27 -> pollinate(near(0, 7), near(0, 5));
            case 28 -> hail(near(0, 63));
            case 29 -> checkColumn(near(0, 7));
            case 30 -> mayWork(near(1, 99), near(0, 7), near(0, 5));
            case 31 -> count(near(0, 38));
            case 32 -> pollen(near(0, 7), near(0, 7), near(0, 5), near(1, 9), near(0, 1));
            case 33, 34 -> plantBest();
            case 35 -> drought(near(0, 36), bits(8, draw.nextInt(4) + 1), near(-1, 3));
            case 36 -> mended(freeCells(), near(-1, 7));
            default -> work(near(1, 60), near(0, 7), workCells(), near(-1, 7));
        }
    }

    private int bits(int of, int most) {
        int b = 0;
        for (int i = 0; i < most; i++) {
            b |= 1 << draw.nextInt(of);
        }
        return draw.nextInt(30) == 0 ? near(0, 255) : b;
    }

    /** CELLS drawn from those that serve, with a foreign one now and then. */
    private long chosen(java.util.function.IntPredicate serves, int most) {
        long b = 0;
        int tries = 1 + draw.nextInt(most);
        for (int i = 0; i < 60 && tries > 0; i++) {
            int c = draw.nextInt(48);
            if (serves.test(c) || draw.nextInt(300) == 0) {
                b |= 1L << c;
                tries--;
            }
        }
        int r = draw.nextInt(80);
        return r == 0 ? b | 1L << 48 + draw.nextInt(16) : r == 1 ? draw.nextLong() : b;
    }

    private long freeCells() {
        return chosen(c -> !naive.hangs(c / 6, c % 6), draw.nextInt(20) == 0 ? 9 : 7);
    }

    private long workCells() {
        return chosen(c -> naive.bears[c / 6] > 30 + 5 * (c % 6), draw.nextInt(20) == 0 ? 9 : 7);
    }

    private void plantBest() {
        for (int i = 0; i < 8; i++) {
            knot(draw.nextInt(8), draw.nextInt(6), 9999 - draw.nextInt(9000));
            if (draw.nextBoolean()) {
                fall(draw.nextInt(8), draw.nextInt(6));
            }
        }
        long cells = chosen(c -> naive.hangs(c / 6, c % 6) && naive.cells[c / 6][c % 6].kind < 0,
                draw.nextInt(20) == 0 ? 6 : 4);
        planted(cells, near(-1, 4));
        planted(cells, draw.nextInt(3) == 0 ? 10 : -1);
    }

    private void checkColumn(int column) {
        int n = draw.nextInt(9);
        if (draw.nextBoolean()) {
            n = 6;
        }
        due("check(0, 0)", real.check(0, 0), naive.check(0, 0));
        int[] numbers = new int[10];
        for (int i = 0; i < 10; i++) {
            boolean crop = naive.hangs(column, i) && naive.cells[column][i].kind >= 0;
            numbers[i] = draw.nextInt(20) == 0 ? draw.nextInt(3) - 1 : crop ? naive.cells[column][i].weight : -1;
        }
        feed(numbers[0], numbers[1], numbers[2], numbers[3], numbers[4]);
        if (draw.nextInt(5) > 0) {
            feed(numbers[5], numbers[6], numbers[7], numbers[8], numbers[9]);
        }
        check(column, draw.nextInt(30) == 0 ? near(0, 12) : n);
    }

    // ---- LAWS

    private void layLaw(String text) {
        due("check(0, 0)", real.check(0, 0), naive.check(0, 0));
        for (int i = 0; i < text.length(); i += 20) {
            int[] five = new int[5];
            for (int j = 0; j < 20; j++) {
                int sign = i + j < text.length() ? text.charAt(i + j) : 'a';
                five[j / 4] = five[j / 4] << 8 | sign;
            }
            feed(five[0], five[1], five[2], five[3], five[4]);
        }
        told.append("\n  TEXT ").append(text);
        law(text.length());
    }

    private String goodLaw() {
        StringBuilder text = new StringBuilder();
        int clauses = 1 + draw.nextInt(draw.nextInt(6) == 0 ? 16 : 8);
        for (int i = 0; i < clauses; i++) {
            String clause = "gfacoq".charAt(draw.nextInt(6)) + sum(0) + "(" + condition(1) + ")";
            if (text.length() + clause.length() < 200) {
                text.append(text.length() > 0 ? ";" : "").append(clause);
            }
        }
        return text.length() > 0 ? text.toString() : "gw+1(1=1);f200(r=1);c1(l=3);ot(1=1);qb*y(b>0)";
    }

    private String spoilt(String text) {
        StringBuilder t = new StringBuilder(text);
        int times = 1 + draw.nextInt(2);
        for (int i = 0; i < times && t.length() > 1; i++) {
            String signs = "gfacoqkyxlsnjwrpdtmb0123456789+-*/%<>=()[]!&|; zA~";
            char sign = draw.nextInt(12) == 0 ? (char) draw.nextInt(256) : signs.charAt(draw.nextInt(signs.length()));
            int at = draw.nextInt(t.length());
            switch (draw.nextInt(5)) {
                case 0 -> t.setCharAt(at, sign);
                case 1 -> t.insert(at, sign);
                case 2 -> t.deleteCharAt(at);
                case 3 -> t.setLength(at + 1);
                default -> t.insert(at, "((((((!!!!!![[[[[[999999".substring(draw.nextInt(20), 20 + draw.nextInt(5)));
            }
        }
        t.setLength(Math.min(200, t.length()));
        return t.toString();
    }

    private String sum(int depth) {
        StringBuilder t = new StringBuilder(term(depth));
        while (draw.nextInt(4) == 0) {
            t.append(draw.nextBoolean() ? '+' : '-').append(term(depth));
        }
        return t.toString();
    }

    private String term(int depth) {
        StringBuilder t = new StringBuilder(factor(depth));
        while (draw.nextInt(4) == 0) {
            t.append("*/%".charAt(draw.nextInt(3))).append(factor(depth));
        }
        return t.toString();
    }

    private String factor(int depth) {
        int r = draw.nextInt(8);
        if (r == 0 && depth < 6) {
            return "[" + sum(depth + 1) + "]";
        }
        if (r < 4) {
            int[] some = {0, 1, 2, 3, 5, 6, 50, 100, 300, 999, 1000, 99999};
            String n = String.valueOf(some[draw.nextInt(some.length)]);
            return draw.nextInt(10) == 0 && n.length() < 5 ? "0" + n : n;
        }
        return String.valueOf("kyxlsnjwrpdtmb".charAt(draw.nextInt(14)));
    }

    private String condition(int depth) {
        StringBuilder t = new StringBuilder(part(depth));
        while (draw.nextInt(4) == 0) {
            t.append('|').append(part(depth));
        }
        return t.toString();
    }

    private String part(int depth) {
        StringBuilder t = new StringBuilder(piece(depth));
        while (draw.nextInt(4) == 0) {
            t.append('&').append(piece(depth));
        }
        return t.toString();
    }

    private String piece(int depth) {
        int r = draw.nextInt(8);
        if (r == 0 && depth < 6) {
            return "!" + piece(depth + 1);
        }
        if (r == 1 && depth < 6) {
            return "(" + condition(depth + 1) + ")";
        }
        if (r == 2) {
            return "1=1";
        }
        return sum(depth) + "<>=".charAt(draw.nextInt(3)) + sum(depth);
    }

    // ---- the calls

    private static long one(boolean b) {
        return b ? 1 : 0;
    }

    private static String row(String name, long... args) {
        StringBuilder t = new StringBuilder(name).append('(');
        for (int i = 0; i < args.length; i++) {
            t.append(i > 0 ? ", " : "").append(args[i]);
        }
        return t.append(')').toString();
    }

    private void hang(int a, int b, int c, int d, int e, int f) {
        due(row("hang", a, b, c, d, e, f), one(real.hang(a, b, c, d, e, f)), one(naive.hang(a, b, c, d, e, f)));
    }

    private void knot(int a, int b, int c) {
        due(row("knot", a, b, c), one(real.knot(a, b, c)), one(naive.knot(a, b, c)));
    }

    private void kind(int a, int b, int c, int d) {
        due(row("kind", a, b, c, d), one(real.kind(a, b, c, d)), one(naive.kind(a, b, c, d)));
    }

    private void plant(int a, int b, int c, int d) {
        due(row("plant", a, b, c, d), one(real.plant(a, b, c, d)), one(naive.plant(a, b, c, d)));
    }

    private void valve(int a, int b) {
        due(row("valve", a, b), one(real.valve(a, b)), one(naive.valve(a, b)));
    }

    private void kitchen(int a, int b, int c) {
        due(row("kitchen", a, b, c), one(real.kitchen(a, b, c)), one(naive.kitchen(a, b, c)));
    }

    private void rope(int a, int b, int c) {
        due(row("rope", a, b, c), one(real.rope(a, b, c)), one(naive.rope(a, b, c)));
    }

    private void seed(int a) {
        due(row("seed", a), one(real.seed(a)), one(naive.seed(a)));
    }

    private void feed(int a, int b, int c, int d, int e) {
        due(row("feed", a, b, c, d, e), real.feed(a, b, c, d, e), naive.feed(a, b, c, d, e));
    }

    private void law(int n) {
        due(row("law", n), real.law(n), naive.law(n));
    }

    private void cell(int a, int b, int c) {
        due(row("cell", a, b, c), real.cell(a, b, c), naive.cell(a, b, c));
    }

    private void byLaw(int a, int b, int c) {
        due(row("byLaw", a, b, c), real.byLaw(a, b, c), naive.byLaw(a, b, c));
    }

    private void fall(int a, int b) {
        due(row("fall", a, b), real.fall(a, b), naive.fall(a, b));
    }

    private void torn(int a, int b) {
        due(row("torn", a, b), real.torn(a, b), naive.torn(a, b));
    }

    private void fallIs(int a, int b) {
        due(row("fallIs", a, b), real.fallIs(a, b), naive.fallIs(a, b));
    }

    private void claimed(int a, int b) {
        due(row("claimed", a, b), real.claimed(a, b), naive.claimed(a, b));
    }

    private void right(int a, int b) {
        due(row("right", a, b), real.right(a, b), naive.right(a, b));
    }

    private void pollinate(int a, int b) {
        due(row("pollinate", a, b), real.pollinate(a, b), naive.pollinate(a, b));
    }

    private void hail(int a) {
        due(row("hail", a), real.hail(a), naive.hail(a));
    }

    private void check(int a, int b) {
        due(row("check", a, b), real.check(a, b), naive.check(a, b));
    }

    private void mayWork(int a, int b, int c) {
        due(row("mayWork", a, b, c), real.mayWork(a, b, c), naive.mayWork(a, b, c));
    }

    private void count(int a) {
        due(row("count", a), real.count(a), naive.count(a));
    }

    private void pollen(int a, int b, int c, int d, int e) {
        due(row("pollen", a, b, c, d, e), real.pollen(a, b, c, d, e), naive.pollen(a, b, c, d, e));
    }

    private void planted(long a, int b) {
        due(row("planted", a, b), real.planted(a, b), naive.planted(a, b));
    }

    private void drought(int a, int b, int c) {
        due(row("drought", a, b, c), real.drought(a, b, c), naive.drought(a, b, c));
    }

    private void mended(long a, int b) {
        due(row("mended", a, b), real.mended(a, b), naive.mended(a, b));
    }

    private void work(int a, int b, long c, int d) {
        due(row("work", a, b, c, d), real.work(a, b, c, d), naive.work(a, b, c, d));
    }

    private void compareState() {
        for (int c = 0; c < 8; c++) {
            for (int l = 0; l < 6; l++) {
                for (int what = 0; what <= 10; what++) {
                    cell(c, l, what);
                }
                for (int what = 0; what <= 2; what++) {
                    byLaw(c, l, what);
                }
            }
            due(row("food", c), real.food(c), naive.food(c));
            for (int what = 0; what <= 3; what++) {
                due(row("kitchenIs", c, what), real.kitchenIs(c, what), naive.kitchenIs(c, what));
            }
        }
        for (int what = 0; what < 40; what++) {
            count(what);
        }
        for (int i = 0; i < naive.falls.size(); i++) {
            for (int what = 0; what < 7; what++) {
                fallIs(i, what);
            }
        }
    }
}

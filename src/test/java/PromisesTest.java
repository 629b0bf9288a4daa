/** Each promise of the document by hand: ordinary inputs, the edges it names, wrong inputs. */
public final class PromisesTest {
    private static int wrong;
    private static int asked;
    private static int promise;

    public static void main(String[] args) {
        newObject();
        hang();
        knotKindPlant();
        valveKitchenRopeSeed();
        feed();
        lawFaults();
        lawReckoning();
        cellAndByLaw();
        water();
        fall();
        go();
        day();
        torn();
        fallsAndClaims();
        foodAndKitchens();
        work();
        pollen();
        planted();
        drought();
        mended();
        hailCheckCount();
        System.out.println(wrong == 0 ? asked + " answers are as due" : wrong + " answers are not as due");
        if (wrong > 0) {
            System.exit(1);
        }
    }

    private static void due(String call, long got, long want) {
        asked++;
        if (got != want) {
            wrong++;
            System.out.println("promise " + promise + ": " + call + " answered " + got + ", due is " + want);
        }
    }

    private static void due(String call, boolean got, boolean want) {
        due(call, got ? 1 : 0, want ? 1 : 0);
    }

    /** Feeds a TEXT and lays it down as THE LAW. */
    private static int lay(CliffGarden g, String text) {
        for (int i = 0; i < text.length(); i += 20) {
            int[] five = new int[5];
            for (int j = 0; j < 20; j++) {
                five[j / 4] = five[j / 4] << 8 | (i + j < text.length() ? text.charAt(i + j) : 'z');
            }
            g.feed(five[0], five[1], five[2], five[3], five[4]);
        }
        return g.law(text.length());
    }

    private static CliffGarden column(int column, int deep, int knot) {
        CliffGarden g = new CliffGarden();
        for (int l = 0; l < deep; l++) {
            g.hang(column, l, 0, knot, l, 0);
        }
        return g;
    }

    private static long bit(int column, int level) {
        return 1L << 6 * column + level;
    }

    private static void newObject() {
        promise = 1;
        CliffGarden g = new CliffGarden();
        for (int what = 0; what <= 6; what++) {
            due("count " + what, g.count(what), what == 5 ? 1 : 0);
        }
        for (int c = 0; c < 8; c++) {
            for (int l = 0; l < 6; l++) {
                due("hangs", g.cell(c, l, 0), 0);
            }
            due("valve", g.count(10 + c), 0);
            due("owner", g.kitchenIs(c, 0), 0);
            due("roof", g.kitchenIs(c, 1), 9999);
            due("drops", g.kitchenIs(c, 2), 0);
            due("holes", g.kitchenIs(c, 3), 0);
            due("food", g.food(c), 0);
            due("rope", g.mayWork(1, c, 0), 0);
            due("an hour costs 1", g.mended(bit(c, 0), -1), 1);
        }
        for (int k = 0; k < 6; k++) {
            due("need", g.count(20 + 3 * k), 1);
            due("ripe", g.count(21 + 3 * k), 50);
            due("worth", g.count(22 + 3 * k), 1);
        }
        due("NONE", CliffGarden.NONE, -1);
        CliffGarden other = new CliffGarden();
        g.hang(0, 0, 1, 1, 1, 1);
        due("one object does not touch another", other.count(0), 0);
    }

    private static void hang() {
        promise = 2;
        CliffGarden g = new CliffGarden();
        due("the one above does not hang", g.hang(3, 1, 0, 0, 0, 0), false);
        due("edges", g.hang(7, 0, 9, 9999, 7, 3), true);
        due("it hangs", g.hang(7, 0, 9, 9999, 7, 3), false);
        due("low edges", g.hang(0, 0, 0, 0, 0, 0), true);
        for (int l = 1; l < 6; l++) {
            due("below", g.hang(7, l, l, 100 * l, l, l % 4), true);
        }
        due("level 6", g.hang(7, 6, 0, 0, 0, 0), false);
        int[][] bad = {{-1, 0, 0, 0, 0, 0}, {8, 0, 0, 0, 0, 0}, {1, -1, 0, 0, 0, 0}, {1, 0, -1, 0, 0, 0},
            {1, 0, 10, 0, 0, 0}, {1, 0, 0, -1, 0, 0}, {1, 0, 0, 10000, 0, 0}, {1, 0, 0, 0, -1, 0}, {1, 0, 0, 0, 8, 0},
            {1, 0, 0, 0, 0, -1}, {1, 0, 0, 0, 0, 4}, {Integer.MAX_VALUE, Integer.MIN_VALUE, 0, 0, 0, 0}};
        for (int[] b : bad) {
            due("no such ones", g.hang(b[0], b[1], b[2], b[3], b[4], b[5]), false);
        }
        due("only those hang", g.count(0), 7);
        int[] facts = {1, 300, 3, 3, 3, -1, 0, 0, 0, 0, 120};
        for (int what = 0; what <= 10; what++) {
            due("what " + what, g.cell(7, 3, what), facts[what]);
        }
        g = column(0, 2, 50);
        g.valve(0, 9);
        g.plant(0, 1, 0, 60);
        g.pollinate(0, 0);
        g.water();
        due("both go", g.go(), 2);
        g.hang(0, 0, 0, 9, 0, 0);
        g.hang(0, 1, 0, 9, 0, 0);
        for (int what = 5; what <= 9; what++) {
            due("hung anew, what " + what, g.cell(0, 1, what), what == 5 ? -1 : 0);
        }
    }

    private static void knotKindPlant() {
        promise = 3;
        CliffGarden g = column(2, 1, 10);
        due("told anew", g.knot(2, 0, 9999), true);
        due("is so", g.cell(2, 0, 1), 9999);
        due("0", g.knot(2, 0, 0), true);
        due("is 0", g.cell(2, 0, 1), 0);
        due("too strong", g.knot(2, 0, 10000), false);
        due("below 0", g.knot(2, 0, -1), false);
        due("does not hang", g.knot(2, 1, 5), false);
        due("no column", g.knot(8, 0, 5), false);
        due("no column", g.knot(-1, 0, 5), false);
        due("no level", g.knot(2, 6, 5), false);
        due("no level", g.knot(2, -1, 5), false);
        due("as before", g.cell(2, 0, 1), 0);

        promise = 4;
        due("high edges", g.kind(5, 20, 200, 99), true);
        due("need", g.count(35), 20);
        due("ripe", g.count(36), 200);
        due("worth", g.count(37), 99);
        due("low edges", g.kind(0, 0, 1, 0), true);
        due("need", g.count(20), 0);
        due("ripe", g.count(21), 1);
        due("worth", g.count(22), 0);
        int[][] bad = {{-1, 1, 1, 1}, {6, 1, 1, 1}, {5, -1, 1, 1}, {5, 21, 1, 1}, {5, 1, 0, 1}, {5, 1, 201, 1},
            {5, 1, 1, -1}, {5, 1, 1, 100}};
        for (int[] b : bad) {
            due("no such ones", g.kind(b[0], b[1], b[2], b[3]), false);
        }
        due("as before", g.count(36), 200);

        promise = 5;
        due("does not hang", g.plant(2, 1, 0, 0), false);
        due("no kind", g.plant(2, 0, 6, 0), false);
        due("no kind", g.plant(2, 0, -1, 0), false);
        due("too heavy", g.plant(2, 0, 0, 201), false);
        due("too light", g.plant(2, 0, 0, -1), false);
        due("no column", g.plant(8, 0, 0, 1), false);
        due("no level", g.plant(2, 6, 0, 1), false);
        due("is set", g.plant(2, 0, 5, 200), true);
        due("has one", g.plant(2, 0, 5, 200), false);
        due("kind", g.cell(2, 0, 5), 5);
        due("weight", g.cell(2, 0, 6), 200);
        due("crops", g.count(6), 1);
        g.pollinate(2, 5);
        g.fall(2, 0);
        due("weight 0", g.plant(2, 0, 5, 0), true);
        due("a new one is not pollinated", g.cell(2, 0, 9), 0);
    }

    private static void valveKitchenRopeSeed() {
        promise = 6;
        CliffGarden g = new CliffGarden();
        due("valve", g.valve(7, 99), true);
        due("is so", g.count(17), 99);
        due("shut", g.valve(7, 0), true);
        due("is shut", g.count(17), 0);
        due("too many", g.valve(0, 100), false);
        due("below 0", g.valve(0, -1), false);
        due("no column", g.valve(8, 1), false);
        due("no column", g.valve(-1, 1), false);
        promise = 7;
        due("kitchen", g.kitchen(7, 7, 0), true);
        due("owner", g.kitchenIs(7, 0), 7);
        due("roof", g.kitchenIs(7, 1), 0);
        due("high roof", g.kitchen(7, 0, 9999), true);
        due("no owner", g.kitchen(7, 8, 1), false);
        due("no owner", g.kitchen(7, -1, 1), false);
        due("no roof", g.kitchen(7, 1, 10000), false);
        due("no roof", g.kitchen(7, 1, -1), false);
        due("no column", g.kitchen(8, 1, 1), false);
        due("as before", g.kitchenIs(7, 1), 9999);
        promise = 8;
        due("rope", g.rope(3, 999, 99), true);
        due("bears", g.mayWork(99, 3, 5), 1);
        due("costs", g.mended(bit(3, 0), -1), 99);
        due("too strong", g.rope(3, 1000, 1), false);
        due("below 0", g.rope(3, -1, 1), false);
        due("too dear", g.rope(3, 1, 100), false);
        due("below 0", g.rope(3, 1, -1), false);
        due("no column", g.rope(8, 1, 1), false);
        due("as before", g.mended(bit(3, 0), -1), 99);
        promise = 9;
        due("seed", g.seed(65535), true);
        due("x, too", g.count(5), 65535);
        due("0", g.seed(0), true);
        due("x", g.count(5), 0);
        due("too high", g.seed(65536), false);
        due("below 0", g.seed(-1), false);
        g.hang(0, 0, 0, 9999, 0, 0);
        g.plant(0, 0, 0, 0);
        g.day();
        due("drawn from 0", g.count(5), 13849);
        g.day();
        due("drawn again", g.count(5), (25173L * 13849 + 13849) % 65536);
    }

    private static void feed() {
        promise = 10;
        CliffGarden g = new CliffGarden();
        for (int i = 1; i <= 11; i++) {
            due("feed", g.feed(1, 2, 3, 4, 5), 20 * i);
        }
        due("221st", g.feed(1, 2, 3, 4, 5), -1);
        due("bytes", g.count(4), 220);
        g = new CliffGarden();
        g.hang(0, 0, 0, 0, 0, 0);
        g.plant(0, 0, 0, 200);
        g.feed(200, -1, -1, -1, -1);
        g.feed(-1, 0x80000000, 0x7fffffff, 0x01020304, 0);
        due("the highest byte first", g.check(0, 6), -1);
    }

    private static void lawFaults() {
        promise = 11;
        String[] texts = {"g1(1=1)", "a0(0=0);f00000(99999<1)", "c[[[[[[k]]]]]](1=1)", "o1((((((1=1))))))",
            "q1(!!!!!1=1)", "q1(!!!!![1]=1)", "q1(!(!(!b<1)))", "g1(1=1|2=2&!3=3|(1<2&2>1))", "f[1]+[2]*[3](1=1)"};
        int[] clauses = {1, 2, 1, 1, 1, -5008, 1, 1, 1};
        for (int i = 0; i < texts.length; i++) {
            due(texts[i], lay(new CliffGarden(), texts[i]), clauses[i]);
        }
        Object[][] faults = {{"k1(1=1)", -1000}, {" g1(1=1)", -1000}, {"g 1(1=1)", -1001}, {"g1", -1002},
            {"g1(", -1003}, {"g1()", -1003}, {"g1(1)", -1004}, {"g1(1=)", -1005}, {"g1(1=1", -1006},
            {"g1(1=1))", -1007}, {"g1(1=1);", -1008}, {"g1(1=1);;", -1008}, {"g1(1=1)g1(1=1)", -1007},
            {"g1(1=1=1)", -1006}, {"g1(1=1&)", -1007}, {"g1(1=1||1=1)", -1007}, {"g1(!)", -1004}, {"g1(!!1)", -1006},
            {"g(1=1)", -1001}, {"g[1(1=1)", -1003}, {"g[](1=1)", -1002}, {"g1](1=1)", -1002}, {"g1+(1=1)", -1003},
            {"g-1(1=1)", -1001}, {"g1([1=1)", -1005}, {"g1((1+1)=2)", -1007}, {"g1((1=1)", -1008},
            {"g1([1]=1]", -1008}, {"gg(1=1)", -1001}, {"g1(g=1)", -1003}, {"gkk(1=1)", -1002}, {"g1k(1=1)", -1002},
            {"gk1(1=1)", -1002}, {"g123456(1=1)", -2006}, {"g12345(1=1)", 1}, {"g000001(1=1)", -2006},
            {"g1(1=999999", -2010}, {"g12345678", -2006}, {"g1[2](1=1)", -1002}, {"g[[[[[[[1", -5007},
            {"g[[[[[[(", -1007}, {"g1(((((((1", -5008}, {"g1(!!!!!!1=1)", -5008}, {"g1(((((![1]=1)))))", -5008},
            {"g1(!!!!!1=1&!!!!!1=1)", 1}, {"g1(!!!!!1=1&!!!!!!1=1)", -5017}, {"g1(!(!1=1)&!(!(!1=1)))", 1},
            {"g1((!1=1)|(((([1]=1)))))", 1}, {"g1((!1=1)|((((([1]=1))))))", -5015}, {"G1(1=1)", -1000},
            {"g1(1=1);z", -1008}, {"g1(1=1)" + (char) 200, -1007}, {"" + (char) 0, -1000}};
        for (Object[] f : faults) {
            due((String) f[0], lay(new CliffGarden(), (String) f[0]), (Integer) f[1]);
        }
        StringBuilder fourteen = new StringBuilder("a1(1=1)");
        for (int i = 1; i < 14; i++) {
            fourteen.append(";").append("gfacoq".charAt(i % 6)).append("1(1=1)");
        }
        CliffGarden g = new CliffGarden();
        due("fourteen", lay(g, fourteen.toString()), 14);
        due("clauses", g.count(3), 14);
        due("fifteenth", lay(g, fourteen + ";g1(1=1)"), -4112);
        due("fifteenth can't stand", lay(g, fourteen + ";1"), -1112);
        due("end for the fifteenth", lay(g, fourteen + ";"), -1112);
        due("the law before stays", g.count(3), 14);
        due("a fault empties the tape", g.count(4), 0);
        StringBuilder longest = new StringBuilder("gk");
        while (longest.length() < 195) {
            longest.append("+k");
        }
        due("200 bytes", lay(g, longest.append(longest.length() % 2 == 0 ? "(1=1)" : "").substring(0, 200)), -1200);
        longest = new StringBuilder("g00");
        while (longest.length() < 195) {
            longest.append("+1");
        }
        due("200 bytes that are right", lay(g, longest + "(1=1)"), 1);
        g.feed(0, 0, 0, 0, 0);
        due("0", g.law(0), -1);
        due("21", g.law(21), -1);
        due("below 0", g.law(-5), -1);
        due("the tape stays", g.count(4), 20);
        for (int i = 0; i < 10; i++) {
            g.feed(0, 0, 0, 0, 0);
        }
        due("201", g.law(201), -1);
        due("the tape stays", g.count(4), 220);
        due("a fault", g.law(200), -1000);
        due("all of the tape goes", g.count(4), 0);
        due("in place of the one before", lay(g, "f3(1=1)"), 1);
        due("clauses", g.count(3), 1);
    }

    private static int asG(String e) {
        CliffGarden g = new CliffGarden();
        g.hang(2, 0, 4, 77, 6, 0);
        g.plant(2, 0, 3, 60);
        return lay(g, "g" + e + "(1=1)") == 1 ? g.byLaw(2, 0, 0) : -99;
    }

    private static int asC(String c) {
        CliffGarden g = new CliffGarden();
        g.hang(2, 0, 4, 77, 6, 0);
        g.plant(2, 0, 3, 60);
        return lay(g, "g7(" + c + ")") == 1 ? g.byLaw(2, 0, 0) / 7 : -99;
    }

    private static void lawReckoning() {
        promise = 11;
        Object[][] es = {{"1+2*3", 7}, {"[1+2]*3", 9}, {"20-3-4", 13}, {"40/4/5", 2}, {"40/[4/5]", 0}, {"17%10*3", 21},
            {"2*17%10", 4}, {"k", 3}, {"y", 50}, {"y-20", 40}, {"x", 2}, {"l", 0}, {"s", 4}, {"n-40", 37}, {"j", 6},
            {"w", 0}, {"r", 1}, {"p", 0}, {"d", 0}, {"t", 0}, {"m", 0}, {"b", 0}, {"0-5", 0}, {"51", 50}, {"50", 50},
            {"1/0", 0}, {"5+1/0", 0}, {"5+[1%l]", 0}, {"[0-7]/2+9", 6}, {"[0-7]%4+9", 6},
            {"99999*99999-[99999*99999-5]", 5}, {"99999*99999/99999999", -99}, {"99999*99999/50000/1000", 28},
            {"[0-65536*32768]/[0-1]", 0}, {"[0-65536*32768]%[0-1]+3", 3}};
        for (Object[] e : es) {
            due((String) e[0], asG((String) e[0]), (Integer) e[1]);
        }
        Object[][] cs = {{"1=1", 1}, {"1=2", 0}, {"1<2", 1}, {"2<2", 0}, {"3>2", 1}, {"2>2", 0}, {"!1=2", 1},
            {"!!1=2", 0}, {"1=2|2=2", 1}, {"1=1&1=2", 0}, {"1=2&1=1|1=1", 1}, {"1=1|1=2&1=2", 1},
            {"(1=1|1=2)&1=2", 0}, {"!1=1|1=1", 1}, {"!(1=1|1=1)", 0}, {"!1=2&1=1", 1}, {"1/0=1", 0}, {"!1/0=1", 0},
            {"!(1/0=1)", 0}, {"1=1|1/0=1", 1}, {"1/0=1|1=1", 0}, {"(1/0=1)|1=1", 0}, {"1=2&1/0=1|1=1", 1},
            {"1=1&1/0=1|1=1", 0}, {"!(1=2&1/0=1)", 1}, {"1=2|(1=1|1%0=0)&2=2", 1}, {"!(1=1|1/0=1)|3=3", 1},
            {"1=2|1=3|1=1|1/0=1", 1}, {"1=1&2=2&3=4&1/0=0", 0}, {"1+1=2", 1}, {"y>59&y<61", 1}};
        for (Object[] c : cs) {
            due((String) c[0], asC((String) c[0]), (Integer) c[1]);
        }
        CliffGarden g = new CliffGarden();
        g.hang(2, 0, 4, 77, 6, 0);
        g.plant(2, 0, 3, 60);
        lay(g, "g9(k=2);f3(1=1);g1/0(k=3);g7(1=1)");
        due("of the first that holds, refused", g.byLaw(2, 0, 0), 0);
        lay(g, "g9(1/0=1);f3(1=1);g5(k=3);g7(1=1)");
        due("a refused c is passed over", g.byLaw(2, 0, 0), 5);
        lay(g, "f1001(1=1);a1000(1=1)");
        due("none: 0", g.byLaw(2, 0, 0), 0);
        due("bound of f", g.byLaw(2, 0, 1), 1000);
        due("bound of a", g.byLaw(2, 0, 2), 999);
        lay(g, "g1(1=");
        due("the text before stays", g.byLaw(2, 0, 1), 1000);
    }

    private static void cellAndByLaw() {
        promise = 12;
        CliffGarden g = column(4, 3, 1000);
        g.knot(4, 1, 500);
        g.kind(2, 6, 30, 2);
        g.plant(4, 1, 2, 40);
        g.pollinate(4, 2);
        g.valve(4, 4);
        g.water();
        int[] facts = {1, 500, 0, 1, 0, 2, 40, 0, 4, 1, 44};
        for (int what = 0; what <= 10; what++) {
            due("what " + what, g.cell(4, 1, what), facts[what]);
        }
        due("load of the one above", g.cell(4, 0, 10), 44);
        due("load of the one below", g.cell(4, 2, 10), 0);
        due("no crop", g.cell(4, 0, 5), -1);
        due("its weight", g.cell(4, 0, 6), 0);
        for (int what = 1; what <= 10; what++) {
            due("does not hang", g.cell(4, 3, what), -1000);
        }
        due("does not hang", g.cell(4, 3, 0), 0);
        due("no what", g.cell(4, 1, 11), -1000);
        due("no what", g.cell(4, 1, -1), -1000);
        due("no column", g.cell(8, 1, 0), -1000);
        due("no column", g.cell(-1, 1, 0), -1000);
        due("no level", g.cell(4, 6, 0), -1000);
        due("no level", g.cell(4, -1, 0), -1000);

        promise = 13;
        lay(g, "gw+p(k=2);fr*y(1=1);ak+y+r+p+1(1=1)");
        due("g", g.byLaw(4, 1, 0), 5);
        due("f", g.byLaw(4, 1, 1), 40);
        due("a", g.byLaw(4, 1, 2), 45);
        due("g without crop", g.byLaw(4, 0, 0), -1);
        due("f without crop", g.byLaw(4, 0, 1), -1);
        due("a without crop", g.byLaw(4, 0, 2), 1);
        due("does not hang", g.byLaw(4, 3, 2), -2);
        due("no what", g.byLaw(4, 1, 3), -1);
        due("no what", g.byLaw(4, 3, -1), -1);
        due("no column", g.byLaw(8, 0, 0), -1);
        due("no level", g.byLaw(0, 6, 0), -1);
        g.kitchen(4, 5, 9);
        lay(g, "gt*5+d(1=1)");
        g.day();
        due("the owner of its kitchen, the day", g.byLaw(4, 1, 0), 26);
    }

    private static void water() {
        promise = 14;
        CliffGarden g = new CliffGarden();
        g.valve(0, 10);
        g.valve(7, 9);
        due("nothing hangs", g.water(), 19);
        due("straight down", g.kitchenIs(0, 2), 10);
        due("straight down", g.kitchenIs(7, 2), 9);
        g.hang(0, 0, 0, 9, 0, 3);
        g.hang(7, 0, 0, 9, 0, 3);
        due("halves at the ends", g.water(), 19);
        due("left is not there", g.kitchenIs(0, 2), 15);
        due("right of it", g.kitchenIs(1, 2), 5);
        due("right is not there", g.kitchenIs(7, 2), 13);
        due("the odd one to the left", g.kitchenIs(6, 2), 5);
        g = new CliffGarden();
        for (int l = 0; l < 6; l++) {
            g.hang(3, l, 0, 999, 0, l == 5 ? 1 : 0);
        }
        g.hang(0, 0, 0, 9, 0, 1);
        g.hang(7, 0, 0, 9, 0, 2);
        g.kind(0, 3, 50, 1);
        g.plant(3, 0, 0, 0);
        g.plant(3, 2, 0, 0);
        g.plant(3, 5, 0, 0);
        g.valve(3, 8);
        g.valve(0, 2);
        g.valve(7, 1);
        due("one lacks", g.water(), 3);
        due("as its need", g.cell(3, 0, 8), 3);
        due("no crop keeps nothing", g.cell(3, 1, 8), 0);
        due("as its need", g.cell(3, 2, 8), 3);
        due("what is there", g.cell(3, 5, 8), 2);
        due("left of the first", g.kitchenIs(0, 2), 2);
        due("right of the last", g.kitchenIs(7, 2), 1);
        g.valve(3, 20);
        due("rest goes on", g.water(), 14);
        due("from the lowest by its way", g.kitchenIs(2, 2), 11);
        g.valve(3, 0);
        g.water();
        due("kept today alone", g.cell(3, 0, 8), 0);
        g = new CliffGarden();
        g.hang(2, 0, 0, 9, 0, 2);
        g.hang(3, 0, 0, 9, 0, 0);
        g.hang(3, 1, 0, 99, 0, 3);
        g.plant(3, 1, 0, 0);
        g.kind(0, 1, 50, 1);
        g.valve(2, 4);
        g.valve(3, 3);
        due("two come together", g.water(), 6);
        due("left half", g.kitchenIs(2, 2), 3);
        due("right half", g.kitchenIs(4, 2), 3);
        due("day is not touched", g.count(1), 0);
    }

    private static void fall() {
        promise = 15;
        CliffGarden g = column(1, 5, 9999);
        g.kind(4, 0, 60, 3);
        g.kitchen(1, 6, 5 * 60 - 1);
        lay(g, "c1(l=3&k=4&y>50&r=1&m=2&x=1&j=3&p=0&t=6);c0-1(l=2);c5(l=4&y=7);ol+m(1=1)");
        g.plant(1, 1, 4, 60);
        due("caught", g.fall(1, 1), 3);
        due("caught", g.cell(1, 3, 7), 60);
        due("load", g.cell(1, 0, 10), 60);
        due("has none then", g.cell(1, 1, 5), -1);
        due("has none then", g.cell(1, 1, 6), 0);
        due("no crop there", g.fall(1, 1), -1);
        g.plant(1, 1, 4, 59);
        due("comes down", g.fall(1, 1), 6);
        due("by o, m to the kitchen", g.food(6), 177);
        due("no hole", g.kitchenIs(1, 3), 0);
        g.plant(1, 0, 4, 50);
        due("a hole", g.fall(1, 0), 6);
        due("by levels fallen", g.kitchenIs(1, 3), 1);
        g.plant(1, 3, 4, 7);
        due("caught by the last", g.fall(1, 3), 4);
        g.plant(1, 4, 4, 200);
        due("the one it falls from does not catch", g.fall(1, 4), 6);
        due("weight and levels above the roof", g.kitchenIs(1, 3), 2);
        due("does not hang", g.fall(1, 5), -1);
        due("no column", g.fall(8, 0), -1);
        due("no level", g.fall(0, -1), -1);
        due("nothing else fell", g.count(2), 5);
        due("the day stays", g.count(1), 0);
        g = column(0, 1, 9999);
        g.kitchen(0, 0, 300);
        g.plant(0, 0, 0, 50);
        due("not above", g.fall(0, 0), 6);
        due("no hole", g.kitchenIs(0, 3), 0);
        due("no law: person 0", g.food(0), 50);
    }

    private static void go() {
        promise = 16;
        CliffGarden g = new CliffGarden();
        due("none", g.go(), 0);
        for (int c = 1; c <= 3; c++) {
            g.hang(c, 0, 0, 1000, c, 0);
            g.hang(c, 1, 1, 109, c, 0);
            g.hang(c, 2, 2, 500, c, 0);
        }
        g.plant(2, 1, 0, 80);
        g.plant(2, 2, 1, 20);
        due("load", g.cell(2, 1, 10), 130);
        g.kind(1, 1, 50, 5);
        lay(g, "c1(1=1);oj+s(1=1)");
        due("two go", g.go(), 2);
        due("left knot", g.cell(1, 1, 1), 96);
        due("right knot", g.cell(3, 1, 1), 96);
        due("others stay", g.cell(1, 2, 1), 500);
        due("above stays", g.cell(2, 0, 0), 1);
        due("hangs no more", g.cell(2, 1, 0), 0);
        due("hangs no more", g.cell(2, 2, 0), 0);
        due("the lowest first", g.fallIs(0, 1), 2);
        due("nothing catches", g.fallIs(0, 4), 6);
        due("then the upper", g.fallIs(1, 1), 1);
        due("by o with its soil", g.food(4), 100);
        due("by o with its soil", g.food(3), 80);
        due("none more", g.go(), 0);
        g.plant(1, 1, 0, 66);
        due("it bears as much", g.go(), 0);
        g.hang(2, 1, 0, 1, 0, 0);
        due("soil is lost", g.cell(2, 1, 2), 0);
        g.knot(1, 1, 95);
        due("tears at the neighbour till 0", g.go(), 2);
        due("not below 0", g.cell(2, 1, 1), 0);
        due("0 bears 0", g.cell(2, 1, 0), 1);
        g = new CliffGarden();
        for (int c = 0; c < 8; c++) {
            g.hang(c, 0, 9, c == 0 ? 89 : 98, 0, 0);
        }
        due("one after another", g.go(), 8);
        due("nothing hangs", g.count(0), 0);
        g = column(5, 3, 100);
        g.plant(5, 2, 0, 150);
        due("from the first of the column", g.go(), 3);
        due("a fall", g.count(2), 1);
    }

    private static void day() {
        promise = 17;
        CliffGarden g = column(1, 3, 300);
        g.hang(0, 0, 0, 5, 0, 0);
        g.kind(0, 2, 10, 1);
        g.plant(1, 0, 0, 5);
        g.plant(1, 1, 0, 190);
        g.valve(1, 3);
        lay(g, "gw*10(1=1);f1000(r=1&l=0);an/100+1(l<2);c1(l=2&w=0);ox(1=1)");
        due("one falls", g.day(), 1);
        due("caught", g.cell(1, 2, 7), 25);
        due("200 at most", g.cell(1, 1, 6), 200);
        due("aged by itself as it was", g.cell(1, 0, 1), 296);
        due("not so below", g.cell(1, 2, 1), 300);
        due("aged", g.cell(0, 0, 1), 4);
        due("the day", g.count(1), 1);
        due("fell on day 0", g.fallIs(0, 6), 0);
        due("kept stays", g.cell(1, 0, 8), 2);
        due("drawn twice", g.count(5), (25173 * ((25173 + 13849) % 65536L) + 13849) % 65536);
        due("no crop falls", g.day(), 0);
        g.knot(1, 1, 200);
        due("knots go, crops fall", g.day(), 1);
        due("into the kitchen", g.fallIs(1, 4), 6);
        due("by x", g.food(1), 200);
        due("fell on day 2", g.fallIs(1, 6), 2);
        due("the day", g.count(1), 3);
        for (int i = 0; i < 7; i++) {
            g.day();
        }
        due("not below 0", g.cell(0, 0, 1), 0);
        g = column(0, 1, 9999);
        g.plant(0, 0, 0, 1);
        g.seed(0);
        lay(g, "f849(1=1)");
        due("x modulo 1000 is 849: not below 849", g.day(), 0);
        g.seed(0);
        lay(g, "f850(1=1)");
        due("849 is below 850", g.day(), 1);
        g = column(0, 1, 9999);
        lay(g, "f1000(1=1)");
        for (int i = 0; i < 65; i++) {
            g.plant(0, 0, 0, 1);
            due("each day one", g.day(), 1);
        }
        due("60 are written", g.count(2), 60);
        due("further ones happen", g.food(0), 65);
    }

    private static void torn() {
        promise = 18;
        CliffGarden g = new CliffGarden();
        for (int c = 2; c <= 5; c++) {
            for (int l = 0; l < 3; l++) {
                g.hang(c, l, 2, l == 1 ? 42 : 9999, 0, 0);
            }
        }
        due("the lowest alone", g.torn(2, 2), bit(2, 2));
        long all = 0;
        for (int c = 2; c <= 5; c++) {
            all |= bit(c, 1) | bit(c, 2);
        }
        due("it tears at all", g.torn(2, 1), all);
        due("from the middle", g.torn(4, 1), all);
        due("the whole column", g.torn(3, 0), bit(3, 0) | bit(3, 1) | bit(3, 2));
        due("nothing is done", g.count(0), 12);
        due("nothing is done", g.cell(3, 1, 1), 42);
        g.knot(5, 0, 1);
        due("one that does not bear goes, too", g.torn(2, 2), bit(2, 2) | bit(5, 0) | bit(5, 1) | bit(5, 2));
        due("does not hang", g.torn(2, 3), -1);
        due("no column", g.torn(8, 0), -1);
        due("no level", g.torn(2, -1), -1);
        g = column(7, 6, 9999);
        due("the last bits", g.torn(7, 0), 63L << 42);
        due("no falls", g.count(2), 0);
    }

    private static void fallsAndClaims() {
        promise = 19;
        CliffGarden g = column(3, 4, 9999);
        g.kind(2, 0, 40, 4);
        lay(g, "c1(l=2&y<10);o2(1=1);qb*[k+1](b>1)");
        g.plant(3, 1, 2, 5);
        g.plant(3, 3, 2, 50);
        g.fall(3, 1);
        g.day();
        g.fall(3, 3);
        int[][] facts = {{3, 1, 2, 5, 2, -1, 0}, {3, 3, 2, 50, 6, 2, 1}};
        for (int i = 0; i < 2; i++) {
            for (int what = 0; what < 7; what++) {
                due("fall " + i + " what " + what, g.fallIs(i, what), facts[i][what]);
            }
        }
        due("no what", g.fallIs(0, 7), -1000);
        due("no what", g.fallIs(0, -1), -1000);
        due("no fall", g.fallIs(2, 0), -1000);
        due("no fall", g.fallIs(-1, 0), -1000);

        promise = 20;
        due("most points", g.claimed(1, 255), 7);
        due("of some", g.claimed(1, 4 + 8), 3);
        due("all with 0", g.claimed(1, 3), -2);
        due("nobody", g.claimed(1, 0), -1);
        due("no such persons", g.claimed(1, 256), -1);
        due("no such persons", g.claimed(1, -1), -1);
        due("no such fall", g.claimed(2, 1), -1);
        due("no such fall", g.claimed(-1, 1), -1);
        due("a caught one, too", g.claimed(0, 255), 7);
        lay(g, "q5(b=6|b=3);q2000(b=1&m=3);q9999(b=4&m=3);q4(1=1)");
        due("of like ones the lowest", g.claimed(1, 64 + 8), 3);
        due("bounded", g.claimed(1, 16 + 2), 1);
        lay(g, "q1(b=7&k=2&y=50&r=1&p=0&l=3&x=3&d=1&m=3);q1(b=5&y=5&r=0&m=1&l=1)");
        due("letters of what fell into the kitchen", g.claimed(1, 255), 7);
        due("letters of what was caught", g.claimed(0, 255), 5);
        g.kind(2, 0, 60, 9);
        due("ripe as it fell", g.claimed(1, 255), 7);
        lay(g, "q1(b=7&n=77)");
        due("the knot", g.claimed(1, 255), -2);
        g.knot(3, 3, 77);
        due("the knot as it is now", g.claimed(1, 255), 7);

        promise = 21;
        lay(g, "qb(b>1)");
        due("caught", g.right(0, 255), -1);
        due("nobody", g.right(1, 3), -1);
        due("his it is", g.right(1, 4), -1);
        due("no fall", g.right(2, 4), -1);
        due("no persons", g.right(1, 0), -1);
        due("no persons", g.right(1, 256), -1);
        due("as it was", g.food(2), 200);
        due("goes over", g.right(1, 255), 200);
        due("from", g.food(2), 0);
        due("to", g.food(7), 200);
        due("whose it is", g.fallIs(1, 5), 7);
        due("his it is now", g.right(1, 255), -1);
        due("and on", g.right(1, 8), 200);
        due("to", g.food(3), 200);
        lay(g, "q1(b=0)");
        due("to the first person", g.right(1, 1), 200);
        due("to", g.food(0), 200);
        claimsOfWhatIsGone();
    }

    private static void claimsOfWhatIsGone() {
        promise = 20;
        CliffGarden g = column(0, 1, 9999);
        g.knot(0, 0, 50);
        g.plant(0, 0, 0, 60);
        g.pollinate(0, 0);
        lay(g, "op*5(r=1);q1001(b=4);q1000(b=2);qp(b=6)");
        g.go();
        due("pollinated as it fell", g.food(5), 60);
        due("pollinated as it fell", g.claimed(0, 64), 6);
        due("1000 points at most", g.claimed(0, 16 + 4), 2);
        due("one person", g.claimed(0, 1), -2);
        lay(g, "q2(b=1&s>0);q1(b=2&s=0&l=0&x=0)");
        due("its soil is lost", g.claimed(0, 255), 2);
        g.hang(0, 0, 3, 1, 0, 0);
        due("hung anew", g.claimed(0, 255), 1);
        lay(g, "q1(b=3&p=1);qp*2(b=3);q1(b=2)");
        due("pollinated is 1", g.claimed(0, 8 + 4), 2);
    }

    private static void foodAndKitchens() {
        promise = 22;
        CliffGarden g = column(6, 1, 9999);
        lay(g, "o9(1=1)");
        g.kind(1, 0, 1, 99);
        g.plant(6, 0, 1, 200);
        g.kitchen(6, 3, 1199);
        g.fall(6, 0);
        due("bound of o", g.food(7), 19800);
        due("others", g.food(0), 0);
        due("no person", g.food(8), -1);
        due("no person", g.food(-1), -1);
        promise = 23;
        g.valve(6, 5);
        g.water();
        g.water();
        due("owner", g.kitchenIs(6, 0), 3);
        due("roof", g.kitchenIs(6, 1), 1199);
        due("drops", g.kitchenIs(6, 2), 10);
        due("holes", g.kitchenIs(6, 3), 1);
        g.kitchen(6, 1, 2);
        due("told anew, drops stay", g.kitchenIs(6, 2), 10);
        due("told anew, holes stay", g.kitchenIs(6, 3), 1);
        due("no what", g.kitchenIs(6, 4), -1);
        due("no what", g.kitchenIs(6, -1), -1);
        due("no column", g.kitchenIs(8, 0), -1);
        due("no column", g.kitchenIs(-1, 0), -1);
    }

    private static void work() {
        promise = 24;
        CliffGarden g = new CliffGarden();
        g.rope(0, 35, 1);
        due("just", g.mayWork(10, 0, 5), 1);
        due("too heavy", g.mayWork(11, 0, 5), 0);
        due("higher up", g.mayWork(11, 0, 4), 1);
        due("weight 0", g.mayWork(0, 0, 0), -1);
        due("weight 100", g.mayWork(100, 0, 0), -1);
        due("weight 99", g.mayWork(99, 0, 0), 0);
        due("no column", g.mayWork(1, 8, 0), -1);
        due("no level", g.mayWork(1, 0, 6), -1);
        promise = 25;
        for (int c = 0; c < 8; c++) {
            g.rope(c, 100, 1);
        }
        due("where it is", g.work(5, 3, bit(3, 0), -1), 1);
        due("two hours a column, one a level", g.work(5, 3, bit(5, 2), -1), 7);
        long both = bit(2, 0) | bit(4, 0);
        due("left or right alike", g.work(5, 3, both, -1), 8);
        due("the least row", g.work(5, 3, both, 0), 12);
        due("the least row", g.work(5, 3, both, 1), 24);
        long line = bit(0, 0) | bit(3, 0) | bit(4, 0);
        due("near end first", g.work(5, 3, line, -1), 2 + 8 + 3);
        due("near end first", g.work(5, 3, line, 0), 18);
        due("near end first", g.work(5, 3, line, 1), 24);
        due("near end first", g.work(5, 3, line, 2), 0);
        due("eight", g.work(5, 0, 63L | bit(1, 0) | bit(7, 5), -1), 2 + 3 + 4 + 14 + 8);
        due("nine", g.work(5, 0, 511L, -1), -3);
        due("none", g.work(5, 0, 0, -1), -3);
        due("no cell", g.work(5, 0, 1L << 48, -1), -3);
        due("no cell", g.work(5, 0, 1L << 63, -1), -3);
        due("no place", g.work(5, 0, 3, 2), -3);
        due("no place", g.work(5, 0, 3, -2), -3);
        due("no weight", g.work(100, 0, 3, -1), -3);
        due("no weight", g.work(0, 0, 3, -1), -3);
        due("the heaviest", g.work(99, 0, 1, -1), 1);
        due("the heaviest, lower", g.work(99, 0, 2, -1), -2);
        due("the lightest", g.work(1, 0, 32, -1), 6);
        due("no column", g.work(5, -1, 3, -1), -3);
        g.rope(0, 9, 1);
        due("not at some", g.work(5, 0, 3, -1), -2);
        due("not at some", g.work(5, 0, 3, 0), -2);
        due("not at the first", g.work(10, 0, bit(0, 0) | bit(1, 0), 0), -2);
        due("no place ahead of that", g.work(5, 0, 3, 2), -3);
        due("it may begin anywhere", g.work(50, 0, bit(1, 0), -1), 3);
    }

    private static void pollen() {
        promise = 26;
        CliffGarden g = new CliffGarden();
        g.hang(0, 0, 0, 9, 0, 0);
        g.plant(0, 0, 5, 1);
        due("in the corner it stays in two of three", g.pollen(0, 0, 5, 1, 0), 1);
        due("where it begins counts", g.pollen(0, 0, 5, 1, 1), 1);
        due("comes to 1", g.pollen(0, 1, 5, 1, 0), 1);
        due("of", g.pollen(0, 1, 5, 1, 1), 3);
        due("1 less four of nine", g.pollen(0, 1, 5, 2, 0), 5);
        due("of", g.pollen(0, 1, 5, 2, 1), 9);
        due("too far", g.pollen(7, 7, 5, 12, 0), 0);
        due("too far", g.pollen(7, 7, 5, 12, 1), 1);
        due("all the way", g.pollen(0, 7, 5, 7, 0), 1);
        due("all the way", g.pollen(0, 7, 5, 7, 1), 2187);
        due("there and back", g.pollen(6, 6, 5, 12, 0), 1);
        due("there and back", g.pollen(6, 6, 5, 12, 1), 531441);
        due("no such crop", g.pollen(0, 0, 4, 1, 0), 0);
        int[][] bad = {{-1, 0, 0, 1, 0}, {8, 0, 0, 1, 0}, {0, -1, 0, 1, 0}, {0, 8, 0, 1, 0}, {0, 0, -1, 1, 0},
            {0, 0, 6, 1, 0}, {0, 0, 0, 0, 0}, {0, 0, 0, 13, 0}, {0, 0, 0, 1, -1}, {0, 0, 0, 1, 2}};
        for (int[] b : bad) {
            due("no such ones", g.pollen(b[0], b[1], b[2], b[3], b[4]), -1);
        }
        due("nothing is pollinated by it", g.cell(0, 0, 9), 0);
        promise = 27;
        g.hang(0, 1, 0, 9, 0, 0);
        g.hang(0, 2, 0, 9, 0, 0);
        g.plant(0, 1, 4, 1);
        g.plant(0, 2, 5, 1);
        due("two", g.pollinate(0, 5), 2);
        due("none more", g.pollinate(0, 5), 0);
        due("is so", g.cell(0, 2, 9), 1);
        due("another kind", g.cell(0, 1, 9), 0);
        due("an empty column", g.pollinate(1, 5), 0);
        due("no column", g.pollinate(8, 5), -1);
        due("no kind", g.pollinate(0, 6), -1);
        due("no kind", g.pollinate(0, -1), -1);
    }

    private static void planted() {
        promise = 28;
        CliffGarden g = new CliffGarden();
        for (int k = 0; k < 6; k++) {
            g.kind(k, 1, 10 * (k + 1), k);
        }
        g.hang(2, 0, 0, 100, 0, 0);
        g.hang(2, 1, 0, 59, 0, 0);
        g.hang(3, 0, 1, 20, 0, 0);
        g.hang(3, 1, 0, 10, 0, 0);
        long two = bit(2, 0) | bit(2, 1);
        due("worth", g.planted(two, -1), 60 * 5 + 40 * 3);
        due("upper", g.planted(two, 0), 5);
        due("lower", g.planted(two, 1), 3);
        due("no worth: none", g.planted(bit(3, 0), -1), 0);
        due("the least row: none", g.planted(bit(3, 0), 0), -1);
        g.kitchen(2, 0, 249);
        due("upper 40, as 50 would hit", g.planted(two, -1), 40 * 3 + 40 * 3);
        g.kitchen(2, 0, 250);
        due("lower 50 does not hit", g.planted(two, -1), 40 * 3 + 50 * 4);
        g.plant(3, 1, 0, 5);
        due("knots bear when all is ripe", g.planted(two, -1), 320);
        g.kind(0, 1, 11, 0);
        due("another knot would not bear", g.planted(two, -1), -2);
        due("nor then", g.planted(two, 10), -2);
        due("nothing done", g.count(6), 1);
        g.kind(0, 1, 10, 0);
        due("has a crop", g.planted(bit(3, 1), -1), -3);
        due("does not hang", g.planted(bit(3, 2), -1), -3);
        due("none", g.planted(0, -1), -3);
        due("the first does not hang", g.planted(1 | two, -1), -3);
        due("no cell", g.planted(1L << 50, -1), -3);
        due("no place", g.planted(two, 2), -3);
        due("no place", g.planted(two, -2), -3);
        due("no place", g.planted(two, 9), -3);
        due("no place", g.planted(two, 11), -3);
        due("nothing done till now", g.count(6), 1);
        due("done", g.planted(two, 10), 320);
        due("kind", g.cell(2, 1, 5), 4);
        due("weight", g.cell(2, 1, 6), 0);
        due("again", g.planted(two, 10), -3);
        g = column(0, 6, 9999);
        due("six", g.planted(63, -1), -3);
        due("five", g.planted(31, -1), 250);
        due("like kinds: the first", g.planted(31, 4), 0);
        g.plant(0, 5, 3, 200);
        g.knot(0, 5, 199);
        due("heavier than ripe", g.planted(1, -1), -2);
        g.knot(0, 5, 200);
        due("heavier than ripe", g.planted(1, -1), 50);
    }

    private static void drought() {
        promise = 29;
        CliffGarden g = new CliffGarden();
        for (int c = 1; c <= 4; c++) {
            g.hang(c, 0, 0, 999, 0, 0);
            g.plant(c, 0, c, 200);
            g.kind(c, 8, 50, 1);
        }
        g.valve(4, 50);
        g.valve(7, 50);
        lay(g, "gw*[5-k](1=1)");
        due("most to the first", g.drought(12, 0b11110, -1), 8 * 4 + 4 * 3);
        int[] each = {8, 4, 0, 0};
        for (int i = 0; i < 4; i++) {
            due("place " + i, g.drought(12, 0b11110, i), each[i]);
        }
        due("others are shut", g.drought(36, 0b01000, -1), 16);
        due("the least that serves", g.drought(36, 0b01000, 0), 8);
        due("36 for all", g.drought(36, 0b11110, -1), 32 + 24 + 16 + 8);
        lay(g, "g51(w=9);g30(w=0);g31(w=3)");
        due("g of all", g.drought(7, 0b00110, -1), 122);
        due("two of three", g.drought(7, 0b00110, 0), 3);
        due("least row", g.drought(5, 0b00110, 0), 0);
        due("least row", g.drought(5, 0b00110, 1), 3);
        due("nothing is done", g.cell(1, 0, 8), 0);
        due("nothing is done", g.count(14), 50);
        due("0 drops", g.drought(0, 1, 0), 0);
        due("too many", g.drought(37, 1, -1), -2);
        due("below 0", g.drought(-1, 1, -1), -2);
        g.kind(1, 20, 50, 1);
        lay(g, "gw(1=1)");
        due("9 at most in one", g.drought(36, 0b00010, -1), 9);
        due("9 at most in one", g.drought(36, 0b00010, 0), 9);
        due("no column", g.drought(1, 0, -1), -2);
        due("no column", g.drought(1, 256, -1), -2);
        due("no column", g.drought(1, -1, -1), -2);
        due("five", g.drought(1, 31, -1), -2);
        due("four: the least row", g.drought(1, 15, 3), 1);
        due("no place", g.drought(1, 15, 4), -2);
        due("no place", g.drought(1, 15, -2), -2);
    }

    private static void mended() {
        promise = 30;
        CliffGarden g = new CliffGarden();
        g.rope(2, 0, 3);
        g.rope(3, 0, 10);
        g.rope(4, 0, 0);
        due("one", g.mended(bit(2, 5), -1), 18);
        long cells = bit(2, 0) | bit(3, 5) | bit(4, 0);
        due("least cost", g.mended(cells, -1), 3 + 70);
        int[] row = {12, 23, 24};
        for (int i = 0; i < 3; i++) {
            due("place " + i, g.mended(cells, i), row[i]);
        }
        long behind = bit(4, 0) | bit(4, 1) | bit(2, 1);
        due("behind its upper neighbour", g.mended(behind, 0), 13);
        due("behind its upper neighbour", g.mended(behind, 1), 24);
        due("behind its upper neighbour", g.mended(behind, 2), 25);
        g.rope(5, 0, 99);
        g.rope(6, 0, 40);
        long chain = bit(5, 0) | bit(5, 1) | bit(6, 0);
        due("the dear column first", g.mended(chain, -1), 99 + 297 + 160);
        long far = bit(0, 5) | bit(1, 0);
        due("no neighbours across columns", g.mended(far, 0), 6);
        g.hang(2, 0, 0, 0, 0, 0);
        due("one hangs", g.mended(cells, -1), -3);
        due("none", g.mended(0, -1), -3);
        due("nine", g.mended(511, -1), -3);
        due("eight", g.mended(255, 7), 5);
        due("no cell", g.mended(1L << 48, -1), -3);
        due("no place", g.mended(3, 2), -3);
        due("no place", g.mended(3, -2), -3);
        due("nothing is hung", g.count(0), 1);
    }

    private static void hailCheckCount() {
        promise = 31;
        CliffGarden g = column(1, 4, 9999);
        g.plant(1, 2, 0, 100);
        g.plant(1, 3, 5, 1);
        due("high roof", g.hail(63), 0);
        g.kitchen(1, 0, 3);
        due("4 is above 3", g.hail(1), 1);
        due("3 is not", g.hail(32), 0);
        due("one kitchen", g.hail(33), 1);
        g.kitchen(1, 0, 4);
        due("4 is not above 4", g.hail(63), 0);
        g.kitchen(0, 0, 0);
        due("no crop above it", g.hail(63), 0);
        g.kitchen(1, 0, 0);
        due("no kinds", g.hail(0), 0);
        due("64", g.hail(64), -1);
        due("below 0", g.hail(-1), -1);
        due("nothing fell", g.count(6), 2);
        due("no holes", g.kitchenIs(1, 3), 0);

        promise = 32;
        int[] six = {-1, -1, 100, 1, -1, -1};
        for (int n = 0; n <= 10; n++) {
            g.feed(six[0], six[1], six[2], six[3], six[4]);
            g.feed(six[5], -1, -1, -1, -1);
            due("right, n " + n, g.check(1, n), n == 6 ? -1 : Math.min(n, 6));
            due("empty then", g.count(4), 0);
        }
        g.feed(-1, 0, 100, 1, -1);
        due("a cell without crop is no 0", g.check(1, 5), 1);
        g.feed(-1, -1, 100, 2, -1);
        due("another weight", g.check(1, 5), 3);
        g.feed(-1, -1, 100, 1, -1);
        due("not so many", g.check(1, 6), -2);
        due("not so many", g.check(1, Integer.MAX_VALUE), -2);
        due("below 0", g.check(1, -1), -2);
        due("no column", g.check(8, 1), -2);
        due("the tape stays", g.count(4), 20);
        due("the first ones", g.check(1, 0), 0);
        due("empty then", g.count(4), 0);

        promise = 33;
        g.valve(3, 33);
        g.kind(3, 4, 5, 6);
        lay(g, "g1(1=1);f1(1=1)");
        g.feed(1, 1, 1, 1, 1);
        g.fall(1, 3);
        g.seed(77);
        g.day();
        int[] facts = {4, 1, 1, 2, 20, (int) ((25173L * 77 + 13849) % 65536), 1};
        for (int what = 0; what < 7; what++) {
            due("what " + what, g.count(what), facts[what]);
        }
        due("valve", g.count(13), 33);
        due("need", g.count(29), 4);
        due("ripe", g.count(30), 5);
        due("worth", g.count(31), 6);
        for (int what : new int[] {-1, 7, 8, 9, 18, 19, 38, 39, Integer.MAX_VALUE, Integer.MIN_VALUE}) {
            due("others", g.count(what), -1);
        }
    }
}

import java.util.ArrayList;
import java.util.List;

/** Sentences on THE LAW: its TEXT, its FAULTS, its letters, and how it is reckoned; the tape. */
final class LawSentences {
    private static final String LETTERS = "kyxlsnjwrpdtmb";

    private LawSentences() {
    }

    static void all() {
        text();
        bounds();
        grammar();
        letters();
        lettersOfFalls();
        reckoning();
        faults();
        depth();
        everySign();
        feed();
        law();
        byLaw();
    }

    private static int fresh(String text) {
        return Gardens.lay(new CliffGarden(), text);
    }

    private static String clauses(int many) {
        StringBuilder text = new StringBuilder();
        for (int i = 0; i < many; i++) {
            text.append(i == 0 ? "" : ";").append("gfacoq".charAt(i % 6)).append("1(1=1)");
        }
        return text.toString();
    }

    /** A right TEXT of one CLAUSE with so many bytes (9 at least). */
    private static String longText(int bytes) {
        StringBuilder e = new StringBuilder(bytes % 2 == 0 ? "g00" : "g0");
        while (e.length() < bytes - 5) {
            e.append("+1");
        }
        return e + "(1=1)";
    }

    private static void text() {
        Book.terms("THE LAW: a TEXT of at most 200 bytes, no blanks (none at first):", () -> {
            CliffGarden g = Gardens.column(0, 1, 9);
            g.plant(0, 0, 0, 0);
            Book.due("none at first", g.count(3), 0);
            Book.due("g of none", g.byLaw(0, 0, 0), 0);
            Book.due("199 bytes", Gardens.lay(g, longText(199)), 1);
            Book.due("200 bytes", Gardens.lay(g, longText(200)), 1);
            Book.due("reckoned to its end", g.byLaw(0, 0, 0), 50);
            Book.due("201 bytes", Gardens.lay(g, longText(201)), -1);
            Book.due("a blank ahead", fresh(" g1(1=1)"), -1000);
            Book.due("a blank within", fresh("g1 (1=1)"), -1002);
            Book.due("a blank in C", fresh("g1(1= 1)"), -1005);
            Book.due("a blank behind", fresh("g1(1=1) "), -1007);
        });
        Book.terms("CLAUSES (14 at most) with a ; (59) between two:", () -> {
            for (int many = 1; many <= 14; many++) {
                Book.due(many + " clauses", fresh(clauses(many)), many);
            }
            Book.due("15 clauses", fresh(clauses(15)), -4112);
            Book.due("58 between", fresh("g1(1=1)" + (char) 58 + "g1(1=1)"), -1007);
            Book.due("59 between", fresh("g1(1=1)" + (char) 59 + "g1(1=1)"), 2);
            Book.due("nothing between", fresh("g1(1=1)g1(1=1)"), -1007);
            Book.due("two between", fresh("g1(1=1);;g1(1=1)"), -1008);
            Book.due("one ahead", fresh(";g1(1=1)"), -1000);
            Book.due("one behind", fresh("g1(1=1);"), -1008);
        });
        Book.terms("a letter, E, and (C):", () -> {
            for (char letter = 0; letter < 256; letter++) {
                boolean can = "gfacoq".indexOf(letter) >= 0;
                Book.due("letter " + (int) letter, fresh(letter + "1(1=1)"), can ? 1 : -1000);
            }
            Book.due("no E", fresh("g(1=1)"), -1001);
            Book.due("no C", fresh("g1"), -1002);
            Book.due("an empty C", fresh("g1()"), -1003);
            Book.due("C not closed", fresh("g1(1=1"), -1006);
        });
    }

    /** g of a CROP in COLUMN 2 with an E. */
    private static int g(String e) {
        CliffGarden g = Gardens.column(2, 1, 77);
        g.plant(2, 0, 3, 60);
        Book.due("law g" + e, Gardens.lay(g, "g" + e + "(1=1)"), 1);
        return g.byLaw(2, 0, 0);
    }

    private static boolean holds(String c) {
        CliffGarden g = Gardens.column(2, 1, 77);
        g.plant(2, 0, 3, 60);
        Book.due("law (" + c + ")", Gardens.lay(g, "g7(" + c + ")"), 1);
        return g.byLaw(2, 0, 0) == 7;
    }

    private static void bounds() {
        Book.terms("of the first CLAUSE of a letter whose C holds the E"
                + " (none: 0; beyond its bounds the bound):", () -> {
            CliffGarden g = Gardens.column(2, 1, 77);
            g.plant(2, 0, 3, 60);
            Gardens.lay(g, "f3(1=1);g9(k=2);g5(k=3);g7(1=1)");
            Book.due("the first that holds", g.byLaw(2, 0, 0), 5);
            Gardens.lay(g, "f3(1=1);g9(k=2)");
            Book.due("none holds", g.byLaw(2, 0, 0), 0);
            Book.due("none of the letter", g.byLaw(2, 0, 2), 0);
            Gardens.lay(g, "g0(1=1);g7(1=1)");
            Book.due("an E of 0 is one, too", g.byLaw(2, 0, 0), 0);
            Gardens.lay(g, "g9(1=1);f8(1=1);g7(1=1);f6(1=1)");
            Book.due("the first of two", g.byLaw(2, 0, 0), 9);
            Book.due("the first of two", g.byLaw(2, 0, 1), 8);
        });
        Book.terms("g by how much a CROP's WEIGHT grows in a day (0 to 50),", () -> {
            String[] es = {"0-1", "0", "1", "49", "50", "51", "99999"};
            int[] due = {0, 0, 1, 49, 50, 50, 50};
            for (int i = 0; i < es.length; i++) {
                CliffGarden g = Gardens.column(2, 1, 777);
                g.plant(2, 0, 3, 60);
                Gardens.lay(g, "g" + es[i] + "(1=1)");
                Book.due("g" + es[i], g.byLaw(2, 0, 0), due[i]);
                g.day();
                Book.due("it grew by g" + es[i], g.cell(2, 0, 6), 60 + due[i]);
            }
        });
        Book.terms("f thousandths by which it falls (0 to 1000),", () -> {
            String[] es = {"0-1", "0", "1", "999", "1000", "1001", "99999"};
            int[] due = {0, 0, 1, 999, 1000, 1000, 1000};
            for (int i = 0; i < es.length; i++) {
                CliffGarden g = Gardens.column(2, 1, 777);
                g.plant(2, 0, 3, 60);
                Gardens.lay(g, "f" + es[i] + "(1=1)");
                Book.due("f" + es[i], g.byLaw(2, 0, 1), due[i]);
                g.seed(seedBefore(999));
                Book.due("999 drawn", g.day(), due[i] > 999 ? 1 : 0);
                g.plant(2, 0, 3, 60);
                g.seed(seedBefore(0));
                Book.due("0 drawn", g.day(), due[i] > 0 ? 1 : 0);
            }
        });
        Book.terms("a by how much less a KNOT is each day (0 to 999),", () -> {
            String[] es = {"0-1", "0", "1", "998", "999", "1000", "99999"};
            int[] due = {0, 0, 1, 998, 999, 999, 999};
            for (int i = 0; i < es.length; i++) {
                CliffGarden g = Gardens.column(2, 1, 5000);
                Gardens.lay(g, "a" + es[i] + "(1=1)");
                Book.due("a" + es[i], g.byLaw(2, 0, 2), due[i]);
                g.day();
                Book.due("it is less by a" + es[i], g.cell(2, 0, 1), 5000 - due[i]);
            }
        });
        boundsOfFalls();
    }

    /** A SEED from which X modulo 1000 is drawn so. */
    static int seedBefore(int thousandths) {
        for (int seed = 0; seed < 65536; seed++) {
            if ((25173 * seed + 13849 & 65535) % 1000 == thousandths) {
                return seed;
            }
        }
        throw new IllegalStateException();
    }

    private static void boundsOfFalls() {
        Book.terms("c whether a CELL catches what falls on it (above 0; 0 to 1),", () -> {
            String[] es = {"0-1", "0-99999", "0", "1", "2", "99999"};
            int[] lies = {6, 6, 6, 1, 1, 1};
            for (int i = 0; i < es.length; i++) {
                CliffGarden g = Gardens.column(2, 2, 777);
                g.plant(2, 0, 3, 60);
                Gardens.lay(g, "c" + es[i] + "(1=1)");
                Book.due("c" + es[i], g.fall(2, 0), lies[i]);
            }
        });
        Book.terms("o the PERSON whose it is that comes into a KITCHEN (0 to 7),", () -> {
            String[] es = {"0-1", "0", "1", "6", "7", "8", "99999"};
            int[] whose = {0, 0, 1, 6, 7, 7, 7};
            for (int i = 0; i < es.length; i++) {
                CliffGarden g = Gardens.column(2, 1, 777);
                g.plant(2, 0, 3, 60);
                Gardens.lay(g, "o" + es[i] + "(1=1)");
                g.fall(2, 0);
                Book.due("o" + es[i], g.fallIs(0, 5), whose[i]);
                Book.due("food by o" + es[i], g.food(whose[i]), 60);
            }
        });
        Book.terms("q points of one who claims it (0 to 1000).", () -> {
            String[] laws = {"q999(b=0);q1000(b=1)", "q1000(b=0);q1001(b=1)", "q1001(b=0);q99999(b=1)",
                "q0-1(b=0);q0(b=1)", "q0-1(b=0);q1(b=1)", "q1(b=0);q0-5(b=1)"};
            int[] who = {1, 0, 0, -2, 1, 0};
            for (int i = 0; i < laws.length; i++) {
                CliffGarden g = Gardens.column(2, 1, 777);
                g.plant(2, 0, 3, 60);
                Gardens.lay(g, laws[i]);
                g.fall(2, 0);
                Book.due(laws[i], g.claimed(0, 3), who[i]);
            }
        });
    }

    private static void grammar() {
        Book.terms("C: PARTS with a | between two, one of which must hold;"
                + " a PART: PIECES with an & between two, all of which must;", () -> {
            for (int bits = 0; bits < 8; bits++) {
                boolean a = (bits & 1) != 0;
                boolean b = (bits & 2) != 0;
                boolean c = (bits & 4) != 0;
                String[] p = {a ? "1=1" : "1=2", b ? "2<3" : "3<2", c ? "5>4" : "4>5"};
                Book.due("a|b|c", holds(p[0] + "|" + p[1] + "|" + p[2]), a || b || c);
                Book.due("a&b&c", holds(p[0] + "&" + p[1] + "&" + p[2]), a && b && c);
                Book.due("a|b&c", holds(p[0] + "|" + p[1] + "&" + p[2]), a || b && c);
                Book.due("a&b|c", holds(p[0] + "&" + p[1] + "|" + p[2]), a && b || c);
                Book.due("(a|b)&c", holds("(" + p[0] + "|" + p[1] + ")&" + p[2]), (a || b) && c);
                Book.due("a&(b|c)", holds(p[0] + "&(" + p[1] + "|" + p[2] + ")"), a && (b || c));
                Book.due("!a&b|c", holds("!" + p[0] + "&" + p[1] + "|" + p[2]), !a && b || c);
                Book.due("!(a&b)|!c", holds("!(" + p[0] + "&" + p[1] + ")|!" + p[2]), !(a && b) || !c);
            }
        });
        Book.terms("a PIECE: !PIECE, (C), or E, one of < > =, and E.", () -> {
            int[][] pairs = {{1, 2}, {2, 2}, {3, 2}};
            for (int[] p : pairs) {
                Book.due("<", holds(p[0] + "<" + p[1]), p[0] < p[1]);
                Book.due(">", holds(p[0] + ">" + p[1]), p[0] > p[1]);
                Book.due("=", holds(p[0] + "=" + p[1]), p[0] == p[1]);
                Book.due("!<", holds("!" + p[0] + "<" + p[1]), p[0] >= p[1]);
                Book.due("!!=", holds("!!" + p[0] + "=" + p[1]), p[0] == p[1]);
                Book.due("!(!>)", holds("!(!" + p[0] + ">" + p[1] + ")"), p[0] > p[1]);
            }
            Book.due("below 0", holds("0-1<0"), true);
            Book.due("no E alone", fresh("g1(1)"), -1004);
            Book.due("no three", fresh("g1(1=1=1)"), -1006);
            Book.due("no <=", fresh("g1(1<=1)"), -1005);
            Book.due("no C as E", fresh("g1((1=1)=1)"), -1008);
            Book.due("no ! of E", fresh("g1(1=!1)"), -1005);
            Book.due("no ( ) about E", fresh("g1((1)=1)"), -1005);
            Book.due("no [ ] about C", fresh("g1([1=1])"), -1005);
        });
        Book.terms("E: TERMS with + or - between two; a TERM: FACTORS with one of * / % between two;"
                + " from the left on;", () -> {
            Object[][] es = {{"7/1", 7}, {"7%1", 0}, {"7*1", 7}, {"0/7", 0}, {"6/7", 0}, {"7/7", 1},
                {"20-3-4", 13}, {"20-3+4", 21}, {"40/4/5", 2}, {"40/4*5", 50}, {"7*9%10", 3},
                {"17%10*3", 21}, {"30%8/2", 3}, {"1+2*3", 7}, {"2*3+1", 7}, {"20-2*3-4", 10}, {"9-8/4", 7},
                {"9-8%5", 6}, {"2*3+4*5", 26}, {"5/2*2", 4}, {"[20-3]-4", 13}, {"20-[3-4]", 21}};
            for (Object[] e : es) {
                Book.due((String) e[0], g((String) e[0]), (Integer) e[1]);
            }
            Book.due("no sign ahead", fresh("g-1(1=1)"), -1001);
            Book.due("no sign ahead", fresh("g+1(1=1)"), -1001);
            Book.due("no two signs", fresh("g1+-1(1=1)"), -1003);
            Book.due("no sign behind", fresh("g1*(1=1)"), -1003);
        });
        Book.terms("a FACTOR: [E], a number of one to five digits, or a letter:", () -> {
            Object[][] es = {{"[7]", 7}, {"[1+2]*3", 9}, {"2*[3+[4-1]]", 12}, {"7", 7}, {"07", 7}, {"00042", 42},
                {"99999-99960", 39}, {"k", 3}, {"[[k]]", 3}};
            for (Object[] e : es) {
                Book.due((String) e[0], g((String) e[0]), (Integer) e[1]);
            }
            Book.due("no digit", fresh("g[](1=1)"), -1002);
            Book.due("six digits", fresh("g000042(1=1)"), -2006);
            Book.due("two factors", fresh("g1k(1=1)"), -1002);
            Book.due("two factors", fresh("gk1(1=1)"), -1002);
            for (char sign = 0; sign < 256; sign++) {
                boolean can = LETTERS.indexOf(sign) >= 0 || sign >= '0' && sign <= '9';
                int due = can ? 1 : sign == '[' ? -1002 : -1001;
                Book.due("factor " + (int) sign, fresh("g" + sign + "(1=1)"), due);
            }
        });
    }

    /** Whether a letter, and no other number, is what THE LAW sees for g, f or a of a CELL. */
    private static void sees(CliffGarden g, int level, int what, int[] due) {
        for (int i = 0; i < LETTERS.length(); i++) {
            String is = LETTERS.charAt(i) + "=" + due[i];
            Gardens.lay(g, "gfa".charAt(what) + "1(" + is + ")");
            Book.due("what " + what + ": " + is, g.byLaw(6, level, what), 1);
        }
    }

    /** LEVEL 2 of COLUMN 6 with a CROP, LEVEL 3 without, on DAY 2; every letter has a number of its own. */
    private static CliffGarden lettered() {
        CliffGarden g = Gardens.column(6, 2, 9999);
        g.hang(6, 2, 9, 9999, 7, 0);
        g.hang(6, 3, 8, 9999, 5, 0);
        g.kind(5, 13, 30, 1);
        g.kitchen(6, 4, 9999);
        g.plant(6, 2, 5, 37);
        g.pollinate(6, 5);
        g.valve(6, 50);
        g.day();
        g.day();
        g.knot(6, 2, 4444);
        g.knot(6, 3, 3333);
        return g;
    }

    private static void letters() {
        int[] full = {5, 37, 6, 2, 9, 4444, 7, 13, 1, 1, 2, 4, 0, 0};
        int[] bare = {0, 0, 6, 3, 8, 3333, 5, 0, 0, 0, 2, 4, 0, 0};
        Book.terms("k the KIND, y the WEIGHT of the CROP, x the COLUMN, l the LEVEL, s the SOIL, n the KNOT,"
                + " j the FARMER, w drops KEPT today, r whether it is RIPE (1, 0), p whether it is POLLINATED (1, 0),"
                + " d THE DAY, t the OWNER of the KITCHEN of that COLUMN,", () -> {
            sees(lettered(), 2, 0, full);
            CliffGarden g = Gardens.column(6, 3, 0);
            g.kind(0, 1, 38, 1);
            g.plant(6, 2, 0, 37);
            sees(g, 2, 0, new int[] {0, 37, 6, 2, 0, 0, 2, 0, 0, 0, 0, 0, 0, 0});
        });
        Book.terms("(g, f: of the CELL and its CROP, m b 0.", () -> {
            sees(lettered(), 2, 0, full);
            sees(lettered(), 2, 1, full);
        });
        Book.terms("a: of the CELL, k y r p 0 if it has no CROP, m b 0.", () -> {
            sees(lettered(), 2, 2, full);
            sees(lettered(), 3, 2, bare);
            CliffGarden g = lettered();
            g.fall(6, 2);
            int[] fallen = {0, 0, 6, 2, 9, 4444, 7, 13, 0, 0, 2, 4, 0, 0};
            sees(g, 2, 2, fallen);
        });
    }

    /** A garden in which what falls from LEVEL 1 of COLUMN 6 may be caught at LEVEL 3, the first CELL with SOIL. */
    private static CliffGarden falling() {
        CliffGarden g = lettered();
        g.plant(6, 0, 3, 40);
        g.kind(3, 2, 41, 1);
        g.plant(6, 1, 1, 66);
        g.kind(1, 11, 66, 1);
        g.pollinate(6, 1);
        g.plant(6, 3, 2, 99);
        g.kind(2, 17, 150, 1);
        g.water();
        return g;
    }

    private static void lettersOfFalls() {
        Book.terms("c: k y r p of what falls; x l s n j w of the CELL that may catch it; b 0.", () -> {
            int[] due = {1, 66, 6, 3, 8, 3333, 5, 17, 1, 1, 2, 4, 2, 0};
            for (int i = 0; i < LETTERS.length(); i++) {
                String is = LETTERS.charAt(i) + "=" + due[i];
                CliffGarden g = falling();
                Gardens.lay(g, "c1(l=3&" + is + ")");
                Book.due("caught by " + is, g.fall(6, 1), 3);
                g = falling();
                Gardens.lay(g, "c1(l=3&!" + is + ")");
                Book.due("not caught by " + is, g.fall(6, 1), 6);
            }
            CliffGarden g = falling();
            Gardens.lay(g, "c1(r=0&p=0&k=3&y=40&m=3)");
            Book.due("another falls, neither ripe nor pollinated", g.fall(6, 0), 3);
        });
        Book.terms("o, q: k y r p of what fell, x l s n j w of the CELL from which it fell,"
                + " m to the KITCHEN or to where it lies; b in q alone.)", () -> {
            int[] due = {5, 37, 6, 2, 9, 4444, 7, 13, 1, 1, 2, 4, 4, 0};
            for (int i = 0; i < LETTERS.length(); i++) {
                String is = LETTERS.charAt(i) + "=" + due[i];
                CliffGarden g = lettered();
                Gardens.lay(g, "o1(" + is + ");q1(" + (i == 13 ? "b=3" : is) + ")");
                g.fall(6, 2);
                Book.due("o by " + is, g.fallIs(0, 5), 1);
                Book.due("q by " + is, g.claimed(0, 8), 3);
                Book.due("q of another", g.claimed(0, 16), i == 13 ? -2 : 4);
            }
            CliffGarden g = falling();
            Gardens.lay(g, "c1(l=3);q1(m=2&l=1&k=1&y=66&j=1)");
            g.fall(6, 1);
            Book.due("m to where it lies", g.claimed(0, 1), 0);
        });
        Book.terms("m how many LEVELS it has fallen, b who claims.", () -> {
            for (int level = 0; level < 6; level++) {
                for (int lies = level + 1; lies <= 6; lies++) {
                    CliffGarden g = Gardens.column(1, 6, 9999);
                    g.plant(1, level, 0, 9);
                    Gardens.lay(g, "c1(m=" + (lies - level) + ");om(1=1);qb+1(m=" + (lies - level) + ")");
                    Book.due("lies", g.fall(1, level), lies);
                    Book.due("o by m", g.fallIs(0, 5), lies == 6 ? 6 - level : -1);
                    Book.due("q by m and b", g.claimed(0, 255), 7);
                }
            }
        });
    }

    private static void reckoning() {
        Book.terms("All is reckoned with 32 bits, as the machine does;", () -> {
            String top = "[65536*32767+65535]";
            Object[][] es = {{top + "+1+7", 0}, {top + "+1-" + top + "+6", 7}, {"99999*99999", 50}, {"50000*50000", 0},
                {"65536*65536+7", 7}, {"99999*99999%47", 1409865409 % 47}, {"46341*46341+" + top, 46341 * 46341 + MAX},
                {"[0-7]/2+9", 6}, {"[0-7]%4+9", 6}, {"7%[0-4]+9", 12}, {"7/[0-2]+9", 6},
                {"[65536*32768]/[0-1]+" + top + "+8", 7}, {"[65536*32768]%[0-1]+3", 3}, {"0-65536*32768", 0},
                {"0-65536*32768+" + top + "+8", 7}};
            for (Object[] e : es) {
                int due = (Integer) e[1];
                Book.due((String) e[0], g((String) e[0]), Math.max(0, Math.min(50, due)));
            }
            Book.due("the top and one is below 0", holds(top + "+1<0"), true);
            Book.due("the lowest less one is above 0", holds("65536*32768-1>0"), true);
            Book.due("compared without loss", holds("65536*32768<" + top), true);
        });
        Book.terms("what is divided by 0 is REFUSED: then a C does not hold, an E is 0.", () -> {
            String[] es = {"1/0", "0/0", "1%0", "0%0", "5+1/0", "1/0+5", "5+[1%0]", "9-[5-[1/l]]", "1/[k-3]+7"};
            for (String e : es) {
                Book.due(e, g(e), 0);
            }
            String[] cs = {"1/0=1", "1=1/0", "1/0=0", "1/0=1/0", "0%0=0", "!1/0=1", "!(1/0=1)", "!!1/0=1", "1/0<1",
                "1/0>0-1", "1/0=1|1=1", "(1/0=1)|1=1", "1=1&1/0=0", "1=2|1/0=0|1=1", "(1=1&1/0=1)|1=1"};
            for (String c : cs) {
                Book.due(c, holds(c), false);
            }
            CliffGarden g = Gardens.column(2, 1, 77);
            g.plant(2, 0, 3, 60);
            Gardens.lay(g, "g9(1/0=0);g5(k=3);g7(1=1)");
            Book.due("the next clause is asked", g.byLaw(2, 0, 0), 5);
            Gardens.lay(g, "g1/0(1=1);g7(1=1)");
            Book.due("an E that is refused is the answer", g.byLaw(2, 0, 0), 0);
            Gardens.lay(g, "g1/0(1=2);g7(1=1)");
            Book.due("an E that is not asked", g.byLaw(2, 0, 0), 7);
        });
        Book.terms("Of a C as much is asked, from the left, as matters.", () -> {
            String[] hold = {"1=1|1/0=1", "1=1|1=2&1/0=1", "1=2&1/0=1|1=1", "!(1=2&1/0=1)", "(1=1|1/0=1)&2=2",
                "1=2|(1=1|1%0=0)&2=2", "!(!(1=1|1/0=1))", "1=1|(1/0=1)|1/0=1", "1=2&1/0=0&1/0=0|1=1"};
            for (String c : hold) {
                Book.due(c, holds(c), true);
            }
            String[] not = {"1/0=1|1=1", "1=1&1/0=1|1=1", "1=2|1/0=1|1=1", "(1=2|1/0=1)|1=1", "1=2&1/0=1",
                "!(1=1|1/0=1)", "1=1&(1=1&1/0=0)|1=1"};
            for (String c : not) {
                Book.due(c, holds(c), false);
            }
        });
    }

    private static final int MAX = Integer.MAX_VALUE;

    private static void faults() {
        Book.terms("FAULTS, the first from the left:", () -> {
            Book.due("1 ahead of 2", fresh("g1)999999(1=1)"), -1002);
            Book.due("2 ahead of 1", fresh("g999999)"), -2006);
            Book.due("2 ahead of 5", fresh("g999999+[[[[[[[1(1=1)"), -2006);
            Book.due("5 ahead of 2", fresh("g[[[[[[[999999"), -5007);
            Book.due("1 ahead of 4", fresh("z" + clauses(15)), -1000);
            Book.due("4 ahead of 1", fresh(clauses(15) + ")"), -4112);
            Book.due("4 ahead of 2", fresh(clauses(14) + ";g999999(1=1)"), -4112);
            Book.due("a sign that is not read", Gardens.lay(new CliffGarden(), "g1(1=1)"), 1);
        });
        Book.terms("1 what can't stand there (the end, too);", () -> {
            String whole = "g[k+1]*2%3(!1<2&(3>y|!(4=5))|x=6);a1(1=1)";
            for (int n = 1; n < whole.length(); n++) {
                String part = whole.substring(0, n);
                int due = part.endsWith(");") || !part.endsWith("x=6)") ? -1000 - n : 1;
                Book.due(part, fresh(part), due);
            }
            Book.due("whole", fresh(whole), 2);
            String[] texts = {"z", "G1(1=1)", "gg(1=1)", "g1(g=1)", "g1[2](1=1)", "g[1(1=1)", "g1](1=1)", "g1(1=1]",
                "g1(1=1))", "g1(&1=1)", "g1(1=1&)", "g1(1=1||1=1)", "g1(1&1=1)", "g1(!)", "g1(!!1)", "g1((1=1)1=1)",
                "g1(1=1)" + (char) 200, "" + (char) 0, "g1(1=1)" + (char) 0, "" + (char) 255, "g" + (char) 177};
            int[] at = {0, 0, 1, 3, 2, 3, 2, 6, 7, 3, 7, 7, 4, 4, 6, 8, 7, 0, 7, 0, 1};
            for (int i = 0; i < texts.length; i++) {
                Book.due(texts[i], fresh(texts[i]), -1000 - at[i]);
            }
        });
        Book.terms("2 a sixth digit, at it;", () -> {
            Book.due("five", fresh("g12345(1=1)"), 1);
            Book.due("six", fresh("g123456(1=1)"), -2006);
            Book.due("seven", fresh("g1234567(1=1)"), -2006);
            Book.due("leading 0 counts", fresh("g000000(1=1)"), -2006);
            Book.due("at the end", fresh("g123456"), -2006);
            Book.due("within [", fresh("g[1+123456](1=1)"), -2009);
            Book.due("in C", fresh("g1(1=123456)"), -2010);
            Book.due("in C, left", fresh("g1(123456=1)"), -2008);
            Book.due("in the second clause", fresh("g1(1=1);a123456"), -2014);
            Book.due("each number by itself", fresh("g12345+12345(12345=12345)"), 1);
        });
        Book.terms("4 a 15th CLAUSE, at its letter (if that can stand there);", () -> {
            String fourteen = clauses(14);
            for (char sign = 0; sign < 256; sign++) {
                boolean can = "gfacoq".indexOf(sign) >= 0;
                Book.due("sign " + (int) sign, fresh(fourteen + ";" + sign), can ? -4112 : -1112);
            }
            Book.due("the end", fresh(fourteen + ";"), -1112);
            Book.due("no ;", fresh(fourteen + "g"), -1111);
            Book.due("no 15th", fresh(fourteen), 14);
        });
    }

    private static void depth() {
        Book.terms("5 a seventh of ( [ ! that are open in one another, at it (the ( of the CLAUSE counts;"
                + " a ! is open till its PIECE ends; the E of a CLAUSE stands ahead of it).", () -> {
            Object[][] texts = {{"g[[[[[[1]]]]]](1=1)", 1}, {"g[[[[[[[1]]]]]]](1=1)", -5007},
                {"g1((((((1=1))))))", 1}, {"g1(((((((1=1)))))))", -5008},
                {"g1(!!!!!1=1)", 1}, {"g1(!!!!!!1=1)", -5008},
                {"g1([[[[[1]]]]]=1)", 1}, {"g1([[[[[[1]]]]]]=1)", -5008},
                {"g1(1=[[[[[1]]]]])", 1}, {"g1(1=[[[[[[1]]]]]])", -5010},
                {"g1(!(!([1]=1)))", 1}, {"g1(!(!([[1]]=1)))", -5008}, {"g1(!(!(!(1=1))))", -5008},
                {"g1(!!!!![1]=1)", -5008}, {"g1(!!!!1=[1])", 1}, {"g1(!!!!!1=[1])", -5010},
                {"g1(!!!!!1=1&!!!!!1=1)", 1}, {"g1(!!!!!1=1|!!!!!!1=1)", -5017},
                {"g1(!!!!1=1&[[[[[1]]]]]=1)", 1}, {"g1(!((!1=1)&((1=1))))", 1}, {"g1(!((!(!1=1))&1=1))", -5008},
                {"g1(!(1=1)&((((1=1)))))", 1}, {"g1(!(1=1)|!!!!!1=1)", 1}, {"g1((!1=1)&!!!!!1=1)", 1},
                {"g1(!(!1=1&!!!1=1))", 1}, {"g1(!(!1=1&!!!!1=1))", -5013},
                {"g[[[[[[1]]]]]]+[[[[[[1]]]]]](((((([1]=1))))))", -5034},
                {"g[[[[[[1]]]]]]((((((1=1))))))", 1},
                {"g1((((((1=1))))));g[[[[[[1]]]]]](1=1)", 2},
                {"g[[[[[[)", -1007}, {"g1(((((()", -1008}, {"g1(!!!!!)", -1008}};
            for (Object[] t : texts) {
                Book.due((String) t[0], fresh((String) t[0]), (Integer) t[1]);
            }
        });
    }

    /** Every sign at every place of right TEXTS, in place of the one there, and ahead of it; and every beginning. */
    private static void everySign() {
        String[] texts = {"g1(1=1)", "gk+[y-3]*2/x%7(l<s&n>j|!w=r)", "f00001(!(1=1|2<3)&4>5);a12345(1=[1]);c1(0=0)",
            "o[[[[[[d]]]]]]+t(((((!1=1)))))", "q1(!!!!!1=1|[[[[[m]]]]]=b&!(!(!1=1)))", clauses(14),
            "gk(1=1);" + clauses(13), "q12345*[99999%54321](1>2|(3<4&(5=6|7=8&!9>0)))"};
        Book.terms("FAULTS, the first from the left:", () -> {
            List<String> tried = new ArrayList<>();
            for (String text : texts) {
                for (int at = 0; at <= text.length(); at++) {
                    String ahead = text.substring(0, at);
                    String rest = text.substring(at);
                    for (char sign = 0; sign < 256; sign++) {
                        tried.add(ahead + sign + rest);
                        tried.add(ahead + sign + rest.substring(Math.min(1, rest.length())));
                    }
                    tried.add(ahead + rest.substring(Math.min(1, rest.length())));
                    tried.add(ahead);
                }
            }
            CliffGarden g = new CliffGarden();
            int calls = 0;
            for (String text : tried) {
                if (calls > 490) {
                    g = new CliffGarden();
                    calls = 0;
                }
                if (!text.isEmpty()) {
                    Book.due(text, Gardens.lay(g, text), LawAutomaton.read(text));
                    calls += text.length() / 20 + 2;
                }
            }
        });
    }

    private static void feed() {
        Book.promise(10, "Twenty bytes come behind the tape, the highest of each int first: how many it has;", () -> {
            CliffGarden g = new CliffGarden();
            Book.due("feed", g.feed(0x67302b30, 0x2b302b30, 0x2b302b30, 0x2b302b30, 0x2b302b30), 20);
            Book.due("feed", g.feed(0x2b303728, 0x313d3129, -1, Gardens.MIN, Gardens.MAX), 40);
            Book.due("g0+0+0+0+0+0+0+0+0+0+07(1=1)", g.law(28), 1);
            g.hang(0, 0, 0, 9, 0, 0);
            g.plant(0, 0, 0, 0);
            Book.due("in their order", g.byLaw(0, 0, 0), 7);
            Book.due("from the start again", g.feed(1, 2, 3, 4, 5), 20);
            g = Gardens.column(0, 1, 9);
            g.plant(0, 0, 0, 0x81);
            g.feed(0x00000081, -1, -1, -1, -1);
            g.feed(-1, 9, 9, 9, 9);
            Book.due("bytes above 127", g.check(0, 6), -1);
        });
        Book.promise(10, "NONE if that would be more than 220.", () -> {
            CliffGarden g = new CliffGarden();
            for (int i = 1; i <= 11; i++) {
                Book.due("feed", g.feed(0x67312831, 0x3d312900, 0, 0, 0), 20 * i);
            }
            Book.due("a twelfth", g.feed(1, 1, 1, 1, 1), -1);
            Book.due("a thirteenth", g.feed(1, 1, 1, 1, 1), -1);
            Book.due("as it was", g.count(4), 220);
            Book.due("as it was", g.law(7), 1);
            Book.due("empty", g.count(4), 0);
        });
    }

    private static void law() {
        Book.promise(11, "THE LAW by the first n bytes of the tape (1 to 200; empty then), in place of the one before:"
                + " how many CLAUSES;", () -> {
            CliffGarden g = Gardens.column(0, 1, 9);
            g.plant(0, 0, 0, 0);
            Gardens.feedText(g, "g7(1=1);a3(1=1);f5(1=1)");
            Book.due("the first 15", g.law(15), 2);
            Book.due("empty then, all of it", g.count(4), 0);
            Book.due("clauses", g.count(3), 2);
            Book.due("g", g.byLaw(0, 0, 0), 7);
            Book.due("f is not in it", g.byLaw(0, 0, 1), 0);
            Book.due("another", Gardens.lay(g, "f5(1=1)"), 1);
            Book.due("clauses", g.count(3), 1);
            Book.due("in place of the one before", g.byLaw(0, 0, 0), 0);
            Book.due("f", g.byLaw(0, 0, 1), 5);
            for (int i = 0; i < 11; i++) {
                g.feed(0, 0, 0, 0, 0);
            }
            Book.due("200 of 220", g.law(200), -1000);
            Book.due("empty then", g.count(4), 0);
            oneLawBehindAnother();
        });
        Book.promise(11, "a FAULT: -1000 times its number, less its place (the TEXT before stays);", () -> {
            String[] faulty = {"z", "g", "g123456", clauses(14) + ";g", "g[[[[[[["};
            int[] due = {-1000, -1001, -2006, -4112, -5007};
            for (int i = 0; i < faulty.length; i++) {
                CliffGarden g = Gardens.column(0, 1, 9);
                g.plant(0, 0, 0, 0);
                Gardens.lay(g, "g7(1=1);f5(1=1)");
                Book.due(faulty[i], Gardens.lay(g, faulty[i]), due[i]);
                Book.due("the text before stays", g.count(3), 2);
                Book.due("the text before stays", g.byLaw(0, 0, 0), 7);
                Book.due("the text before stays", g.byLaw(0, 0, 1), 5);
                Book.due("the tape is empty", g.count(4), 0);
                Book.due("and then another", Gardens.lay(g, "g8(1=1)"), 1);
                Book.due("is asked", g.byLaw(0, 0, 0), 8);
            }
            Book.due("the last place", fresh(longText(199) + ";"), -1200);
            Book.due("the last place", fresh(longText(200).replace(')', '!')), -1199);
        });
        Book.promise(11, "NONE: no such n,", () -> {
            for (int n : new int[] {0, -1, 201, 220, 221, Gardens.MIN, Gardens.MAX}) {
                Gardens.refused("law " + n, g -> g.law(n), -1);
                CliffGarden g = new CliffGarden();
                for (int i = 0; i < 11; i++) {
                    g.feed(0x67312831, 0x3d312900, 0, 0, 0);
                }
                Book.due("law " + n, g.law(n), -1);
                Book.due("the tape stays", g.count(4), 220);
                Book.due("the tape stays", g.law(7), 1);
            }
        });
        Book.promise(11, "it has not so many (the tape stays).", () -> {
            Gardens.refused("law of 21 when there are 20", g -> g.law(21), -1);
            Gardens.refused("law of 200 when there are 20", g -> g.law(200), -1);
            Book.due("an empty tape", new CliffGarden().law(1), -1);
            CliffGarden g = new CliffGarden();
            Gardens.feedText(g, "g1+1+1+1+1+1+1+(1=1)");
            Book.due("just as many", g.law(20), -1015);
        });
    }

    /** Nothing of any LAW before may be seen, nor may long ones use the room up. */
    private static void oneLawBehindAnother() {
        CliffGarden g = Gardens.column(0, 1, 9);
        g.plant(0, 0, 0, 0);
        for (int i = 0; i < 4; i++) {
            Book.due("fourteen", Gardens.lay(g, clauses(14)), 14);
            Book.due("g", g.byLaw(0, 0, 0), 1);
        }
        for (int i = 0; i < 4; i++) {
            Book.due("one of f", Gardens.lay(g, "f" + i + "(1=1)"), 1);
            Book.due("no g any more", g.byLaw(0, 0, 0), 0);
            Book.due("no a any more", g.byLaw(0, 0, 2), 0);
            Book.due("f", g.byLaw(0, 0, 1), i);
        }
        for (int i = 0; i < 8; i++) {
            Book.due("one or two", Gardens.lay(g, i < 4 ? "f1(1=1);g7(1=1)" : "f2(1=1)"), i < 4 ? 2 : 1);
            Book.due("the second one", g.byLaw(0, 0, 0), i < 4 ? 7 : 0);
        }
        for (int i = 0; i < 6; i++) {
            Book.due("a long one", Gardens.lay(g, longText(200 - i)), 1);
            Book.due("g of a long one", g.byLaw(0, 0, 0), 50);
            Book.due("a long one with a fault", Gardens.lay(g, longText(199 - i) + ";"), i - 1200);
            Book.due("a short one", Gardens.lay(g, "g" + i + "(1=1)"), 1);
            Book.due("g of a short one", g.byLaw(0, 0, 0), i);
        }
    }

    private static void byLaw() {
        Book.promise(13, "By THE LAW of a CELL that HANGS, what 0 g (NONE: no CROP), 1 f (NONE: no CROP), 2 a;", () -> {
            CliffGarden g = Gardens.column(4, 2, 9999);
            g.plant(4, 0, 2, 40);
            Gardens.lay(g, "g1+l(1=1);f2+l(1=1);a3+l(1=1)");
            int[] full = {1, 2, 3};
            int[] bare = {-1, -1, 4};
            for (int what = 0; what <= 2; what++) {
                Book.due("with a crop", g.byLaw(4, 0, what), full[what]);
                Book.due("without", g.byLaw(4, 1, what), bare[what]);
            }
            CliffGarden no = Gardens.column(4, 1, 9);
            Book.due("no law, no crop", no.byLaw(4, 0, 0), -1);
            Book.due("no law", no.byLaw(4, 0, 2), 0);
        });
        Book.promise(13, "-2: it does not HANG;", () -> {
            for (int what = 0; what <= 2; what++) {
                int w = what;
                Gardens.refused("what " + w, g -> g.byLaw(3, 3, w), -2);
                Gardens.refused("what " + w, g -> g.byLaw(7, 5, w), -2);
            }
        });
        Book.promise(13, "NONE also: no such ones.", () -> {
            for (int what : new int[] {-1, 3, Gardens.MIN, Gardens.MAX}) {
                Gardens.refused("what " + what, g -> g.byLaw(2, 0, what), -1);
                Gardens.refused("what " + what + " of one that does not hang", g -> g.byLaw(7, 5, what), -1);
            }
            for (int[] no : Gardens.NO_CELLS) {
                for (int what = 0; what <= 2; what++) {
                    Book.due("no cell", Gardens.rich().byLaw(no[0], no[1], what), -1);
                }
            }
        });
    }
}

/** Sentences on what is told: CELLS, KINDS, VALVES, KITCHENS, ROPES, THE SEED, and what may be asked of them. */
final class CellSentences {
    private CellSentences() {
    }

    static void all() {
        cells();
        ways();
        crops();
        kinds();
        brow();
        newObject();
        hang();
        knot();
        kind();
        plant();
        valveAndKitchen();
        ropeAndSeed();
        cell();
        count();
    }

    private static void cells() {
        Book.terms("CELLS: COLUMNS 0 to 7, LEVELS 0 (at the brow) to 5 (the lowest).", () -> {
            CliffGarden g = new CliffGarden();
            for (int n = 0; n < 48; n++) {
                Book.due("hang " + n, g.hang(n / 6, n % 6, 0, 0, 0, 0), true);
            }
            Book.due("all hang", g.count(0), 48);
            g = Gardens.column(3, 6, 9);
            Book.due("level 6", g.hang(3, 6, 0, 0, 0, 0), false);
            Book.due("the next column's first is another", g.cell(4, 0, 0), 0);
            Book.due("level -1", g.hang(4, -1, 0, 0, 0, 0), false);
            Book.due("column -1", g.hang(-1, 0, 0, 0, 0, 0), false);
            Book.due("column 8", g.hang(8, 0, 0, 0, 0, 0), false);
        });
        Book.terms("A CELL HANGS (or not; none does at first)", () -> {
            CliffGarden g = new CliffGarden();
            for (int n = 0; n < 48; n++) {
                Book.due("hangs " + n, g.cell(n / 6, n % 6, 0), 0);
            }
            Book.due("hang", g.hang(0, 0, 0, 0, 0, 0), true);
            Book.due("hangs", g.cell(0, 0, 0), 1);
        });
        Book.terms("by a KNOT (0 to 9999) from the one above it (at LEVEL 0 from the brow),", () -> {
            for (int knot : new int[] {-1, 0, 1, 9998, 9999, 10000, Gardens.MIN, Gardens.MAX}) {
                boolean can = knot >= 0 && knot <= 9999;
                CliffGarden g = Gardens.column(5, 1, 7);
                Book.due("hang from the one above", g.hang(5, 1, 0, knot, 0, 0), can);
                Book.due("knot", g.cell(5, 1, 1), can ? knot : -1000);
                Book.due("hang from the brow", g.hang(6, 0, 0, knot, 0, 0), can);
                Book.due("told anew", g.knot(5, 0, knot), can);
                Book.due("is", g.cell(5, 0, 1), can ? knot : 7);
            }
        });
        Book.terms("has SOIL (0 to 9),", () -> {
            for (int soil : new int[] {-1, 0, 1, 8, 9, 10, Gardens.MIN, Gardens.MAX}) {
                boolean can = soil >= 0 && soil <= 9;
                CliffGarden g = new CliffGarden();
                Book.due("hang with soil " + soil, g.hang(7, 0, soil, 0, 0, 0), can);
                Book.due("soil", g.cell(7, 0, 2), can ? soil : -1000);
            }
        });
        Book.terms("a FARMER (0 to 7),", () -> {
            for (int farmer : new int[] {-1, 0, 1, 6, 7, 8, Gardens.MIN, Gardens.MAX}) {
                boolean can = farmer >= 0 && farmer <= 7;
                CliffGarden g = new CliffGarden();
                Book.due("hang with farmer " + farmer, g.hang(7, 0, 0, 0, farmer, 0), can);
                Book.due("farmer", g.cell(7, 0, 3), can ? farmer : -1000);
            }
        });
        Book.terms("It HANGS only if the one above HANGS (or at LEVEL 0).", () -> {
            for (int l = 0; l < 6; l++) {
                CliffGarden g = new CliffGarden();
                Book.due("level " + l + " under nothing", g.hang(2, l, 0, 0, 0, 0), l == 0);
                Gardens.hangColumn(g, 3, l, 9);
                Book.due("level " + l + " under one", g.hang(3, l, 0, 0, 0, 0), true);
            }
            CliffGarden g = Gardens.column(1, 6, 9);
            Book.due("another column's lowest is not above", g.hang(2, 1, 0, 0, 0, 0), false);
            g.hang(2, 0, 0, 0, 0, 0);
            g.knot(1, 2, 0);
            g.plant(1, 5, 0, 1);
            Book.due("those below go with it", g.go(), 4);
            for (int l = 0; l < 6; l++) {
                Book.due("hangs " + l, g.cell(1, l, 0), l < 2 ? 1 : 0);
            }
        });
    }

    /** What comes into the KITCHENS left of, below and right of a CELL with a WAY, as decimal places. */
    private static int streams(int column, int way, int drops) {
        CliffGarden g = new CliffGarden();
        g.hang(column, 0, 0, 9, 0, way);
        g.valve(column, drops);
        g.water();
        int left = column > 0 ? g.kitchenIs(column - 1, 2) : 0;
        int right = column < 7 ? g.kitchenIs(column + 1, 2) : 0;
        return 10000 * left + 100 * g.kitchenIs(column, 2) + right;
    }

    private static void ways() {
        Book.terms("a WAY for drops (0 down, 1 down to the left COLUMN, 2 to the right, 3 by halves to left and right,"
                + " the odd one to the left; a COLUMN that is not there: straight down),", () -> {
            Book.due("0 down", streams(3, 0, 5), 500);
            Book.due("1 left", streams(3, 1, 5), 50000);
            Book.due("2 right", streams(3, 2, 5), 5);
            Book.due("3 halves", streams(3, 3, 6), 30003);
            Book.due("the odd one to the left", streams(3, 3, 7), 40003);
            Book.due("one drop is the odd one", streams(3, 3, 1), 10000);
            Book.due("no drop", streams(3, 3, 0), 0);
            Book.due("1 at the left end", streams(0, 1, 5), 500);
            Book.due("2 at the left end", streams(0, 2, 5), 5);
            Book.due("3 at the left end", streams(0, 3, 7), 403);
            Book.due("1 at the right end", streams(7, 1, 5), 50000);
            Book.due("2 at the right end", streams(7, 2, 5), 500);
            Book.due("3 at the right end", streams(7, 3, 7), 40300);
            Book.due("0 at the ends", streams(0, 0, 7) + streams(7, 0, 7), 1400);
            for (int c = 1; c <= 6; c++) {
                Book.due("1 from column " + c, streams(c, 1, 7), 70000);
                Book.due("2 from column " + c, streams(c, 2, 7), 7);
                Book.due("3 from column " + c, streams(c, 3, 7), 40003);
            }
            for (int way : new int[] {-1, 0, 3, 4, Gardens.MIN, Gardens.MAX}) {
                boolean can = way >= 0 && way <= 3;
                CliffGarden g = new CliffGarden();
                Book.due("way " + way, g.hang(4, 0, 0, 9, 0, way), can);
                Book.due("way", g.cell(4, 0, 4), can ? way : -1000);
            }
        });
    }

    private static void crops() {
        Book.terms("a CROP of a KIND or none, its WEIGHT (0 to 200),", () -> {
            for (int weight : new int[] {-1, 0, 1, 199, 200, 201, Gardens.MIN, Gardens.MAX}) {
                boolean can = weight >= 0 && weight <= 200;
                CliffGarden g = Gardens.column(0, 1, 9);
                Book.due("none", g.cell(0, 0, 5), -1);
                Book.due("weight " + weight, g.plant(0, 0, 5, weight), can);
                Book.due("kind", g.cell(0, 0, 5), can ? 5 : -1);
                Book.due("weight", g.cell(0, 0, 6), can ? weight : 0);
            }
        });
        Book.terms("what it has CAUGHT (a weight), drops it has KEPT today, whether its CROP is POLLINATED.", () -> {
            CliffGarden g = Gardens.column(0, 2, 9999);
            Gardens.lay(g, "c1(1=1)");
            for (int weight : new int[] {200, 200, 0, 7}) {
                g.plant(0, 0, 0, weight);
                g.fall(0, 0);
            }
            Book.due("caught may be more than a crop's most", g.cell(0, 1, 7), 407);
            g.plant(0, 0, 0, 1);
            g.valve(0, 1);
            g.water();
            Book.due("kept", g.cell(0, 0, 8), 1);
            g.valve(0, 0);
            g.water();
            Book.due("kept today alone", g.cell(0, 0, 8), 0);
            Book.due("not pollinated", g.cell(0, 0, 9), 0);
            g.pollinate(0, 0);
            Book.due("pollinated", g.cell(0, 0, 9), 1);
            g.fall(0, 0);
            Book.due("its crop is gone", g.cell(0, 0, 9), 0);
            g.plant(0, 0, 0, 1);
            Book.due("a new crop is not", g.cell(0, 0, 9), 0);
        });
    }

    private static int ripe(int ripe, int weight) {
        CliffGarden g = Gardens.column(0, 1, 9);
        g.kind(3, 0, ripe, 0);
        g.plant(0, 0, 3, weight);
        Gardens.lay(g, "gr+1(1=1)");
        return g.byLaw(0, 0, 0) - 1;
    }

    private static void kinds() {
        Book.terms("KINDS 0 to 5: a NEED of drops a day (0 to 20; 1 at first),", () -> {
            CliffGarden g = new CliffGarden();
            for (int k = 0; k < 6; k++) {
                Book.due("need at first", g.count(20 + 3 * k), 1);
                Book.due("most", g.kind(k, 20, 1, 0), true);
                Book.due("is", g.count(20 + 3 * k), 20);
                Book.due("too much", g.kind(k, 21, 1, 0), false);
                Book.due("least", g.kind(k, 0, 1, 0), true);
                Book.due("is", g.count(20 + 3 * k), 0);
                Book.due("too little", g.kind(k, -1, 1, 0), false);
            }
            Book.due("kind -1", g.kind(-1, 0, 1, 0), false);
            Book.due("kind 6", g.kind(6, 0, 1, 0), false);
        });
        Book.terms("RIPE from a WEIGHT on (1 to 200; 50 at first),", () -> {
            CliffGarden g = new CliffGarden();
            for (int k = 0; k < 6; k++) {
                Book.due("ripe at first", g.count(21 + 3 * k), 50);
                Book.due("most", g.kind(k, 0, 200, 0), true);
                Book.due("too much", g.kind(k, 0, 201, 0), false);
                Book.due("is", g.count(21 + 3 * k), 200);
                Book.due("least", g.kind(k, 0, 1, 0), true);
                Book.due("too little", g.kind(k, 0, 0, 0), false);
                Book.due("is", g.count(21 + 3 * k), 1);
            }
            Book.due("49 of 50", ripe(50, 49), 0);
            Book.due("50 of 50", ripe(50, 50), 1);
            Book.due("51 of 50", ripe(50, 51), 1);
            Book.due("0 of 1", ripe(1, 0), 0);
            Book.due("1 of 1", ripe(1, 1), 1);
            Book.due("199 of 200", ripe(200, 199), 0);
            Book.due("200 of 200", ripe(200, 200), 1);
        });
        Book.terms("a WORTH (0 to 99; 1 at first).", () -> {
            CliffGarden g = new CliffGarden();
            for (int k = 0; k < 6; k++) {
                Book.due("worth at first", g.count(22 + 3 * k), 1);
                Book.due("most", g.kind(k, 0, 1, 99), true);
                Book.due("too much", g.kind(k, 0, 1, 100), false);
                Book.due("is", g.count(22 + 3 * k), 99);
                Book.due("least", g.kind(k, 0, 1, 0), true);
                Book.due("too little", g.kind(k, 0, 1, -1), false);
                Book.due("is", g.count(22 + 3 * k), 0);
            }
        });
    }

    private static void brow() {
        Book.terms("VALVES at the brow, one a COLUMN: drops a day (0 to 99; 0 at first).", () -> {
            CliffGarden g = new CliffGarden();
            for (int c = 0; c < 8; c++) {
                Book.due("at first", g.count(10 + c), 0);
                Book.due("most", g.valve(c, 99), true);
                Book.due("too many", g.valve(c, 100), false);
                Book.due("is", g.count(10 + c), 99);
            }
            Book.due("one a column", g.water(), 792);
            for (int c = 0; c < 8; c++) {
                Book.due("shut", g.valve(c, 0), true);
                Book.due("below 0", g.valve(c, -1), false);
                Book.due("is", g.count(10 + c), 0);
            }
        });
        Book.terms("KITCHENS below, one a COLUMN: an OWNER (0 to 7; 0 at first), a ROOF (0 to 9999; 9999 at first),"
                + " FOOD, drops that came, HOLES.", () -> {
            CliffGarden g = new CliffGarden();
            for (int c = 0; c < 8; c++) {
                Book.due("owner at first", g.kitchenIs(c, 0), 0);
                Book.due("roof at first", g.kitchenIs(c, 1), 9999);
                Book.due("drops at first", g.kitchenIs(c, 2), 0);
                Book.due("holes at first", g.kitchenIs(c, 3), 0);
                Book.due("least roof, most owner", g.kitchen(c, 7, 0), true);
                Book.due("owner 8", g.kitchen(c, 8, 0), false);
                Book.due("owner -1", g.kitchen(c, -1, 0), false);
                Book.due("roof 10000", g.kitchen(c, 7, 10000), false);
                Book.due("roof -1", g.kitchen(c, 7, -1), false);
                Book.due("owner", g.kitchenIs(c, 0), 7);
                Book.due("roof", g.kitchenIs(c, 1), 0);
                Book.due("most roof, least owner", g.kitchen(c, 0, 9999), true);
                Book.due("owner", g.kitchenIs(c, 0), 0);
                Book.due("roof", g.kitchenIs(c, 1), 9999);
            }
        });
        Book.terms("ROPES at the brow, one a COLUMN: how much they bear (0 to 999; 0 at first).", () -> {
            CliffGarden g = new CliffGarden();
            for (int c = 0; c < 8; c++) {
                Book.due("at first", g.mayWork(1, c, 0), 0);
                Book.due("most", g.rope(c, 999, 1), true);
                Book.due("too much", g.rope(c, 1000, 1), false);
                Book.due("bears", g.mayWork(99, c, 5), 1);
                Book.due("least", g.rope(c, 0, 1), true);
                Book.due("too little", g.rope(c, -1, 1), false);
                Book.due("bears no more", g.mayWork(1, c, 0), 0);
            }
        });
        Book.terms("THE DAY: 0 at first.", () -> {
            CliffGarden g = Gardens.column(0, 1, 9);
            Book.due("day", g.count(1), 0);
            g.plant(0, 0, 0, 0);
            Gardens.lay(g, "gd+1(d=0)");
            Book.due("d", g.byLaw(0, 0, 0), 1);
        });
    }

    private static void newObject() {
        Book.promise(1, "Nothing HANGS; no LAW; THE SEED 1.", () -> {
            CliffGarden g = new CliffGarden();
            Book.due("cells that hang", g.count(0), 0);
            Book.due("clauses", g.count(3), 0);
            Book.due("x", g.count(5), 1);
            g.hang(0, 0, 0, 9, 0, 0);
            g.plant(0, 0, 0, 0);
            Book.due("no law: g", g.byLaw(0, 0, 0), 0);
            Book.due("no law: f", g.byLaw(0, 0, 1), 0);
            Book.due("no law: a", g.byLaw(0, 0, 2), 0);
            Book.due("the rest is empty", g.count(1) + g.count(2) + g.count(4), 0);
            Book.due("another object has its own", new CliffGarden().count(0), 0);
        });
        Book.terms("The constants: `NONE = -1`: There is none.", () -> Book.due("NONE", CliffGarden.NONE, -1));
        Book.terms("All memory is the cliff's own.", () -> {
            CliffGarden rich = Gardens.rich();
            CliffGarden g = new CliffGarden();
            Book.due("another cliff's cells", g.count(0), 0);
            Book.due("another cliff's law", g.count(3), 0);
            Book.due("another cliff's tape", g.count(4), 0);
            Book.due("another cliff's falls", g.count(2), 0);
            Book.due("its own", rich.count(0), 10);
        });
        Book.says("What it is", "An object is used for at most 512 calls after it has been made;", () -> {
            CliffGarden g = new CliffGarden();
            for (int i = 0; i < 511; i++) {
                g.day();
            }
            Book.due("the 512th call", g.count(1), 511);
        });
    }

    private static void hang() {
        Book.promise(2, "A CELL is HUNG (with SOIL, a KNOT, a FARMER, a WAY;"
                + " no CROP, nothing CAUGHT, KEPT): true;", () -> {
            CliffGarden g = Gardens.column(4, 3, 9999);
            Gardens.lay(g, "c1(l=2)");
            g.valve(4, 9);
            g.plant(4, 1, 0, 30);
            g.fall(4, 1);
            g.plant(4, 1, 0, 31);
            g.plant(4, 2, 0, 31);
            g.pollinate(4, 0);
            g.water();
            g.knot(4, 1, 0);
            Book.due("two go", g.go(), 2);
            Book.due("hang", g.hang(4, 1, 8, 77, 6, 2), true);
            Book.due("hang", g.hang(4, 2, 7, 66, 5, 1), true);
            int[][] facts = {{1, 77, 8, 6, 2, -1, 0, 0, 0, 0, 150}, {1, 66, 7, 5, 1, -1, 0, 0, 0, 0, 70}};
            for (int what = 0; what <= 10; what++) {
                Book.due("upper, what " + what, g.cell(4, 1, what), facts[0][what]);
                Book.due("lower, what " + what, g.cell(4, 2, what), facts[1][what]);
            }
        });
        Book.promise(2, "false: no such ones,", () -> {
            for (int[] no : Gardens.NO_CELLS) {
                Gardens.refused("hang", g -> Gardens.asLong(g.hang(no[0], no[1], 0, 0, 0, 0)), 0);
            }
            int[][] bad = {{-1, 0, 0, 0}, {10, 0, 0, 0}, {0, -1, 0, 0}, {0, 10000, 0, 0}, {0, 0, -1, 0}, {0, 0, 8, 0},
                {0, 0, 0, -1}, {0, 0, 0, 4}};
            for (int[] b : bad) {
                Gardens.refused("hang", g -> Gardens.asLong(g.hang(1, 0, b[0], b[1], b[2], b[3])), 0);
            }
        });
        Book.promise(2, "it HANGS,", () -> {
            for (int l = 0; l < 6; l++) {
                int level = l;
                Gardens.refused("hang", g -> Gardens.asLong(g.hang(2, level, 1, 1, 1, 1)), 0);
            }
        });
        Book.promise(2, "the one above does not.", () -> {
            Gardens.refused("hang", g -> Gardens.asLong(g.hang(1, 1, 1, 1, 1, 1)), 0);
            Gardens.refused("hang", g -> Gardens.asLong(g.hang(3, 4, 1, 1, 1, 1)), 0);
            Gardens.refused("hang", g -> Gardens.asLong(g.hang(0, 5, 1, 1, 1, 1)), 0);
        });
    }

    private static void knot() {
        Book.promise(3, "A KNOT is told anew: true;", () -> {
            CliffGarden g = Gardens.rich();
            Book.due("knot", g.knot(2, 5, 9999), true);
            Book.due("is", g.cell(2, 5, 1), 9999);
            Book.due("knot", g.knot(2, 5, 0), true);
            Book.due("is", g.cell(2, 5, 1), 0);
            Book.due("the one above has its own", g.cell(2, 4, 1), 4600);
            Book.due("it still hangs", g.cell(2, 5, 0), 1);
        });
        Book.promise(3, "false: no such ones,", () -> {
            for (int[] no : Gardens.NO_CELLS) {
                Gardens.refused("knot", g -> Gardens.asLong(g.knot(no[0], no[1], 5)), 0);
            }
            for (int n : new int[] {-1, 10000, Gardens.MIN, Gardens.MAX}) {
                Gardens.refused("knot " + n, g -> Gardens.asLong(g.knot(2, 0, n)), 0);
            }
        });
        Book.promise(3, "it does not HANG.", () -> {
            Gardens.refused("knot", g -> Gardens.asLong(g.knot(3, 3, 5)), 0);
            Gardens.refused("knot", g -> Gardens.asLong(g.knot(7, 0, 5)), 0);
        });
    }

    private static void kind() {
        Book.promise(4, "A KIND: true;", () -> {
            CliffGarden g = new CliffGarden();
            for (int k = 0; k < 6; k++) {
                Book.due("kind", g.kind(k, 20 - k, 200 - k, 99 - k), true);
            }
            for (int k = 0; k < 6; k++) {
                Book.due("need", g.count(20 + 3 * k), 20 - k);
                Book.due("ripe", g.count(21 + 3 * k), 200 - k);
                Book.due("worth", g.count(22 + 3 * k), 99 - k);
            }
        });
        Book.promise(4, "false: no such ones.", () -> {
            for (int no : Gardens.NO_KINDS) {
                Gardens.refused("kind " + no, g -> Gardens.asLong(g.kind(no, 2, 2, 2)), 0);
            }
            int[][] bad = {{-1, 2, 2}, {21, 2, 2}, {2, 0, 2}, {2, 201, 2}, {2, -1, 2}, {2, 2, -1}, {2, 2, 100},
                {Gardens.MIN, 2, 2}, {2, Gardens.MAX, 2}, {2, 2, Gardens.MIN}};
            for (int[] b : bad) {
                Gardens.refused("kind", g -> Gardens.asLong(g.kind(0, b[0], b[1], b[2])), 0);
            }
        });
    }

    private static void plant() {
        Book.promise(5, "A CROP of a WEIGHT (0 to 200) is set: true;", () -> {
            CliffGarden g = Gardens.rich();
            Book.due("plant", g.plant(2, 5, 5, 200), true);
            Book.due("plant", g.plant(2, 4, 0, 0), true);
            Book.due("kinds", 10 * g.cell(2, 5, 5) + g.cell(2, 4, 5), 50);
            Book.due("weights", g.cell(2, 5, 6) + g.cell(2, 4, 6), 200);
            Book.due("not pollinated", g.cell(2, 5, 9), 0);
            Book.due("crops", g.count(6), 5);
            Book.due("what it caught stays", g.cell(2, 4, 7), 15);
        });
        Book.promise(5, "false: no such ones,", () -> {
            for (int[] no : Gardens.NO_CELLS) {
                Gardens.refused("plant", g -> Gardens.asLong(g.plant(no[0], no[1], 0, 5)), 0);
            }
            for (int no : Gardens.NO_KINDS) {
                Gardens.refused("plant " + no, g -> Gardens.asLong(g.plant(2, 5, no, 5)), 0);
            }
            for (int no : new int[] {-1, 201, Gardens.MIN, Gardens.MAX}) {
                Gardens.refused("plant " + no, g -> Gardens.asLong(g.plant(2, 5, 0, no)), 0);
            }
        });
        Book.promise(5, "the CELL does not HANG,", () -> {
            Gardens.refused("plant", g -> Gardens.asLong(g.plant(1, 0, 0, 5)), 0);
            Gardens.refused("plant", g -> Gardens.asLong(g.plant(3, 3, 0, 5)), 0);
        });
        Book.promise(5, "it has one.", () -> {
            Gardens.refused("plant", g -> Gardens.asLong(g.plant(2, 0, 0, 5)), 0);
            Gardens.refused("plant the same", g -> Gardens.asLong(g.plant(3, 1, 5, 2)), 0);
        });
    }

    private static void valveAndKitchen() {
        Book.promise(6, "A VALVE: true;", () -> {
            CliffGarden g = new CliffGarden();
            for (int c = 0; c < 8; c++) {
                Book.due("valve", g.valve(c, 99 - c), true);
            }
            for (int c = 0; c < 8; c++) {
                Book.due("is", g.count(10 + c), 99 - c);
            }
        });
        Book.promise(6, "false: no such ones.", () -> {
            for (int no : Gardens.NO_COLUMNS) {
                Gardens.refused("valve of " + no, g -> Gardens.asLong(g.valve(no, 1)), 0);
            }
            for (int no : new int[] {-1, 100, Gardens.MIN, Gardens.MAX}) {
                Gardens.refused("valve with " + no, g -> Gardens.asLong(g.valve(0, no)), 0);
            }
        });
        Book.promise(7, "A KITCHEN: true;", () -> {
            CliffGarden g = Gardens.rich();
            for (int c = 0; c < 8; c++) {
                Book.due("kitchen", g.kitchen(c, c, 9999 - c), true);
            }
            for (int c = 0; c < 8; c++) {
                Book.due("owner", g.kitchenIs(c, 0), c);
                Book.due("roof", g.kitchenIs(c, 1), 9999 - c);
            }
            Book.due("its drops stay", g.kitchenIs(7, 2), 10);
        });
        Book.promise(7, "false: no such ones.", () -> {
            for (int no : Gardens.NO_COLUMNS) {
                Gardens.refused("kitchen of " + no, g -> Gardens.asLong(g.kitchen(no, 1, 1)), 0);
            }
            for (int no : Gardens.NO_PERSONS) {
                Gardens.refused("kitchen for " + no, g -> Gardens.asLong(g.kitchen(1, no, 1)), 0);
            }
            for (int no : new int[] {-1, 10000, Gardens.MIN, Gardens.MAX}) {
                Gardens.refused("kitchen with " + no, g -> Gardens.asLong(g.kitchen(1, 1, no)), 0);
            }
        });
    }

    private static void ropeAndSeed() {
        Book.promise(8, "A ROPE, and what an hour costs in a COLUMN: true;", () -> {
            CliffGarden g = new CliffGarden();
            for (int c = 0; c < 8; c++) {
                Book.due("rope", g.rope(c, 10 + c, 99 - c), true);
            }
            Book.due("nothing bears, an hour is free", g.rope(3, 0, 0), true);
            for (int c = 0; c < 8; c++) {
                Book.due("bears", g.mayWork(10 + c, c, 0), c == 3 ? 0 : 1);
                Book.due("bears not", g.mayWork(11 + c, c, 0), 0);
                Book.due("an hour", g.mended(Gardens.bit(c, 0), -1), c == 3 ? 0 : 99 - c);
            }
        });
        Book.promise(8, "false: no such ones.", () -> {
            for (int no : Gardens.NO_COLUMNS) {
                Gardens.refused("rope of " + no, g -> Gardens.asLong(g.rope(no, 1, 1)), 0);
            }
            for (int no : new int[] {-1, 1000, Gardens.MIN, Gardens.MAX}) {
                Gardens.refused("rope that bears " + no, g -> Gardens.asLong(g.rope(1, no, 1)), 0);
            }
            for (int no : new int[] {-1, 100, Gardens.MIN, Gardens.MAX}) {
                Gardens.refused("rope that costs " + no, g -> Gardens.asLong(g.rope(1, 1, no)), 0);
            }
        });
        Book.promise(9, "THE SEED (0 to 65535; X, too): true;", () -> {
            for (int x : new int[] {0, 1, 65534, 65535}) {
                CliffGarden g = Gardens.column(0, 1, 9999);
                g.plant(0, 0, 0, 0);
                Book.due("seed", g.seed(x), true);
                Book.due("x, too", g.count(5), x);
                g.day();
                Book.due("drawn from it", g.count(5), (25173L * x + 13849) % 65536);
            }
        });
        Book.promise(9, "false: no such number.", () -> {
            for (int no : new int[] {-1, 65536, Gardens.MIN, Gardens.MAX}) {
                Gardens.refused("seed " + no, g -> Gardens.asLong(g.seed(no)), 0);
            }
        });
    }

    private static void cell() {
        Book.promise(12, "Of a CELL, what 0 whether it HANGS (1, 0), 1 KNOT, 2 SOIL, 3 FARMER, 4 WAY, 5 KIND (NONE),"
                + " 6 WEIGHT, 7 CAUGHT, 8 KEPT, 9 POLLINATED (1, 0), 10 LOAD;", () -> {
            CliffGarden g = new CliffGarden();
            Gardens.lay(g, "c1(l=2)");
            g.hang(6, 0, 0, 9000, 0, 0);
            g.hang(6, 1, 0, 9000, 0, 0);
            g.hang(6, 2, 9, 9999, 7, 3);
            g.hang(6, 3, 2, 500, 1, 1);
            g.plant(6, 1, 0, 60);
            g.fall(6, 1);
            g.kind(4, 5, 10, 1);
            g.plant(6, 2, 4, 33);
            g.pollinate(6, 4);
            g.valve(6, 9);
            g.water();
            int[] full = {1, 9999, 9, 7, 3, 4, 33, 60, 5, 1, 90 + 33 + 60 + 5 + 20};
            int[] bare = {1, 500, 2, 1, 1, -1, 0, 0, 0, 0, 20};
            for (int what = 0; what <= 10; what++) {
                Book.due("full, what " + what, g.cell(6, 2, what), full[what]);
                Book.due("bare, what " + what, g.cell(6, 3, what), bare[what]);
            }
        });
        Book.promise(12, "of one that does not HANG what 1 to 10: -1000;", () -> {
            for (int what = 0; what <= 10; what++) {
                int w = what;
                Gardens.refused("what " + w, g -> g.cell(3, 3, w), w == 0 ? 0 : -1000);
                Gardens.refused("what " + w, g -> g.cell(1, 0, w), w == 0 ? 0 : -1000);
            }
        });
        Book.promise(12, "-1000 for others.", () -> {
            for (int what : new int[] {-1, 11, 12, Gardens.MIN, Gardens.MAX}) {
                Gardens.refused("what " + what, g -> g.cell(2, 0, what), -1000);
                Gardens.refused("what " + what, g -> g.cell(1, 0, what), -1000);
            }
            for (int[] no : Gardens.NO_CELLS) {
                for (int what = 0; what <= 10; what++) {
                    Book.due("no cell", Gardens.rich().cell(no[0], no[1], what), -1000);
                }
            }
        });
    }

    private static void count() {
        Book.promise(33, "0 CELLS that HANG, 1 THE DAY, 2 FALLS written, 3 CLAUSES, 4 bytes of the tape, 5 X, 6 CROPS;",
            () -> {
                CliffGarden g = new CliffGarden();
                Gardens.hangColumn(g, 0, 6, 9999);
                Gardens.hangColumn(g, 7, 6, 9999);
                g.plant(0, 5, 0, 1);
                g.plant(7, 0, 0, 1);
                g.plant(7, 5, 0, 1);
                g.fall(7, 0);
                Gardens.lay(g, "g1(1=1);g1(1=1);g1(1=1)");
                g.day();
                g.day();
                g.feed(0, 0, 0, 0, 0);
                g.seed(4711);
                long[] due = {12, 2, 1, 3, 20, 4711, 2};
                for (int what = 0; what <= 6; what++) {
                    Book.due("what " + what, g.count(what), due[what]);
                }
                g.knot(0, 0, 0);
                g.go();
                Book.due("cells that hang", g.count(0), 6);
                Book.due("crops", g.count(6), 1);
                Book.due("falls", g.count(2), 2);
                for (int n = 0; n < 48; n++) {
                    g = Gardens.column(n / 6, 6, 9999);
                    g.plant(n / 6, n % 6, 0, 0);
                    Book.due("the crop of cell " + n, g.count(6), 1);
                }
            });
        Book.promise(33, "10 + c VALVE of COLUMN c, 20 + 3 k NEED of KIND k, 21 + 3 k RIPE, 22 + 3 k WORTH.", () -> {
            CliffGarden g = new CliffGarden();
            for (int c = 0; c < 8; c++) {
                g.valve(c, 50 + c);
            }
            for (int k = 0; k < 6; k++) {
                g.kind(k, 10 + k, 100 + k, 70 + k);
            }
            for (int c = 0; c < 8; c++) {
                Book.due("valve", g.count(10 + c), 50 + c);
            }
            for (int k = 0; k < 6; k++) {
                Book.due("need", g.count(20 + 3 * k), 10 + k);
                Book.due("ripe", g.count(21 + 3 * k), 100 + k);
                Book.due("worth", g.count(22 + 3 * k), 70 + k);
            }
        });
        Book.promise(33, "NONE for others.", () -> {
            for (int what : new int[] {-1, -2, 7, 8, 9, 18, 19, 38, 39, 100, Gardens.MIN, Gardens.MAX}) {
                Gardens.refused("what " + what, g -> g.count(what), -1);
            }
        });
    }
}

/** Sentences on planting, DROUGHT, mending, HAIL and CHECK. */
final class PlanSentences {
    private PlanSentences() {
    }

    static void all() {
        bearing();
        holes();
        mostWorth();
        promiseOfPlanted();
        droughtOfColumns();
        mostGrowth();
        promiseOfDrought();
        mendingHours();
        mendingCosts();
        promiseOfMended();
        hail();
        check();
    }

    /** KINDS 0 to 5 RIPE from 10, 20 .. 60, of WORTH 0 to 5. */
    private static CliffGarden kinds() {
        CliffGarden g = new CliffGarden();
        for (int k = 0; k < 6; k++) {
            g.kind(k, 1, 10 * (k + 1), k);
        }
        return g;
    }

    private static void bearing() {
        Book.terms("PLANTED: of told CELLS (5 at most, that HANG without CROP) each gets a KIND or none (-1) so that,"
                + " all CROPS there being as heavy as RIPE (or as they are, if heavier), each KNOT BEARS,", () -> {
            for (int knot = 0; knot <= 70; knot++) {
                CliffGarden g = kinds();
                g.hang(2, 0, 0, knot, 0, 0);
                int k = Math.min(5, knot / 10 - 1);
                Book.due("what knot " + knot + " bears", g.planted(Gardens.bit(2, 0), 0), k <= 0 ? -1 : k);
            }
            CliffGarden g = kinds();
            g.hang(2, 0, 1, 9999, 0, 0);
            g.hang(2, 1, 1, 79, 0, 0);
            Book.due("soil counts", g.planted(Gardens.bit(2, 1), 0), 5);
            g.hang(2, 2, 1, 9999, 0, 0);
            Book.due("what hangs below counts", g.planted(Gardens.bit(2, 1), 0), 4);
            g.plant(2, 2, 3, 5);
            Book.due("a crop counts as ripe, not as it is", g.planted(Gardens.bit(2, 1), 0), -1);
            g.fall(2, 2);
            g.plant(2, 2, 0, 39);
            Book.due("or as it is, if heavier", g.planted(Gardens.bit(2, 1), 0), 1);
            g.fall(2, 2);
            g.plant(2, 2, 0, 40);
            Book.due("or as it is, if heavier", g.planted(Gardens.bit(2, 1), -1), 0);
            g.knot(2, 1, 80);
            Book.due("just", g.planted(Gardens.bit(2, 1), 0), 1);
            g.knot(2, 0, 89);
            Book.due("the knot above, too", g.planted(Gardens.bit(2, 1), 0), -1);
            caughtAndKept();
            everyKnot();
            newOnesTogether();
        });
    }

    private static void caughtAndKept() {
        CliffGarden g = kinds();
        Gardens.hangColumn(g, 2, 2, 9999);
        g.knot(2, 1, 60);
        Gardens.lay(g, "c1(1=1)");
        g.plant(2, 0, 0, 10);
        g.fall(2, 0);
        Book.due("what it caught counts", g.planted(Gardens.bit(2, 1), 0), 4);
        g = kinds();
        g.kind(5, 20, 60, 5);
        Gardens.hangColumn(g, 2, 1, 60);
        g.plant(2, 0, 5, 1);
        g.valve(2, 20);
        g.water();
        g.fall(2, 0);
        Book.due("what it kept counts", g.planted(Gardens.bit(2, 0), 0), 3);
    }

    private static void everyKnot() {
        CliffGarden g = kinds();
        Gardens.hangColumn(g, 2, 1, 60);
        Gardens.hangColumn(g, 6, 1, 9);
        Book.due("all bear", g.planted(Gardens.bit(2, 0), -1), 300);
        g.plant(6, 0, 0, 0);
        Book.due("another column's would not, ripe", g.planted(Gardens.bit(2, 0), -1), -2);
        g.knot(6, 0, 10);
        Book.due("it would", g.planted(Gardens.bit(2, 0), -1), 300);
        g = kinds();
        Gardens.hangColumn(g, 2, 6, 9);
        Gardens.hangColumn(g, 3, 1, 60);
        g.plant(3, 0, 5, 0);
        Book.due("the next column's first is not below the lowest", g.planted(Gardens.bit(2, 5), -1), 0);
    }

    private static void newOnesTogether() {
        for (int n = 0; n < 16; n++) {
            int column = n / 2;
            int upper = n % 2;
            CliffGarden g = kinds();
            Gardens.hangColumn(g, column, 4, 9999);
            g.knot(column, upper, 100);
            long two = Gardens.bit(column, 1) | Gardens.bit(column, 2);
            Book.due("together below one knot", g.planted(two, -1), 300 + 120);
            Book.due("40 and 60", g.planted(two, 0), 3);
            Book.due("40 and 60", g.planted(two, 1), 5);
            long three = two | Gardens.bit(column, 3);
            Book.due("three together", g.planted(three, -1), 300 + 120);
            g.knot(column, upper, 150);
            Book.due("three together", g.planted(three, -1), 300 + 300 + 60);
        }
    }

    private static void holes() {
        Book.terms("and of the new ones none would make a HOLE:", () -> {
            for (int l = 0; l < 6; l++) {
                CliffGarden g = kinds();
                Gardens.hangColumn(g, 2, 6, 9999);
                g.kitchen(2, 0, 30 * (6 - l));
                Book.due("30 at level " + l, g.planted(Gardens.bit(2, l), 0), 2);
                g.kitchen(2, 0, 30 * (6 - l) - 1);
                Book.due("20 at level " + l, g.planted(Gardens.bit(2, l), 0), 1);
                g.kitchen(3, 0, 0);
                Book.due("another roof", g.planted(Gardens.bit(2, l), 0), 1);
                g.kitchen(2, 0, 0);
                Book.due("none", g.planted(Gardens.bit(2, l), 0), -1);
            }
            CliffGarden g = kinds();
            Gardens.hangColumn(g, 2, 2, 9999);
            g.plant(2, 0, 0, 200);
            g.kitchen(2, 0, 5 * 60);
            Book.due("of the new ones, not of those there", g.planted(Gardens.bit(2, 1), 0), 5);
        });
    }

    private static void mostWorth() {
        Book.terms("most WORTH (of new KINDS times their RIPE WEIGHTS);", () -> {
            CliffGarden g = kinds();
            Gardens.hangColumn(g, 2, 2, 9999);
            g.knot(2, 0, 100);
            long two = Gardens.bit(2, 0) | Gardens.bit(2, 1);
            Book.due("60 and 40", g.planted(two, -1), 300 + 120);
            g.kind(0, 1, 10, 99);
            Book.due("10 and 60", g.planted(two, -1), 990 + 990);
            Book.due("twice the dear one", g.planted(two, 0) + g.planted(two, 1), 0);
            g.plant(2, 1, 5, 0);
            Book.due("those there are not counted", g.planted(Gardens.bit(2, 0), -1), 990);
            g = new CliffGarden();
            Gardens.hangColumn(g, 2, 5, 9999);
            for (int k = 0; k < 6; k++) {
                g.kind(k, 0, 200, 99);
            }
            Book.due("five of the dearest", g.planted(31L << 12, -1), 5 * 19800);
            Book.due("the fifth of them", g.planted(31L << 12, 4), 0);
            for (int k = 0; k < 6; k++) {
                g.kind(k, 0, 200, 0);
            }
            Book.due("worth nothing", g.planted(31L << 12, -1), 0);
        });
        Book.terms("of like ones the least row (by CELLS' numbers).", () -> {
            CliffGarden g = new CliffGarden();
            Gardens.hangColumn(g, 2, 2, 50);
            Gardens.hangColumn(g, 1, 1, 9999);
            long three = Gardens.bit(1, 0) | Gardens.bit(2, 0) | Gardens.bit(2, 1);
            int[] row = {0, -1, 0};
            for (int i = 0; i < 3; i++) {
                Book.due("place " + i, g.planted(three, i), row[i]);
            }
            g.kind(3, 1, 25, 2);
            Book.due("50 once by two of 25", g.planted(three, -1), 50 + 100);
            g.kind(2, 1, 50, 2);
            int[] other = {2, -1, 2};
            for (int i = 0; i < 3; i++) {
                Book.due("none is least, place " + i, g.planted(three, i), other[i]);
            }
            g.kind(2, 1, 50, 0);
            g.kind(0, 1, 25, 2);
            g.kind(1, 1, 50, 1);
            g.kind(4, 1, 50, 1);
            g.kind(5, 1, 50, 1);
            int[] last = {0, 0, 0};
            for (int i = 0; i < 3; i++) {
                Book.due("the first of like kinds, place " + i, g.planted(three, i), last[i]);
            }
        });
    }

    private static void promiseOfPlanted() {
        Book.promise(28, "PLANTED in CELLS (bits, 1 to 5 of them), what NONE the WORTH, 10 as NONE but done"
                + " (they get WEIGHT 0), else the KIND at place what (by CELLS' numbers; -1: none);", () -> {
            for (int many = 1; many <= 5; many++) {
                CliffGarden g = kinds();
                Gardens.hangColumn(g, 7, 6, 9999);
                g.knot(7, 5, 9);
                g.knot(7, 4, 20);
                long cells = (1L << many) - 1 << 48 - many;
                int[] due = {-1, 1, 5, 5, 5};
                for (int place = 0; place < many; place++) {
                    Book.due("place " + place, g.planted(cells, place), due[many - 1 - place]);
                }
                int worth = many == 1 ? 0 : 20 + 300 * (many - 2);
                Book.due("worth", g.planted(cells, -1), worth);
                Book.due("nothing is done", g.count(6), 0);
                Book.due("done", g.planted(cells, 10), worth);
                Book.due("crops", g.count(6), many - 1);
                for (int l = 6 - many; l < 6; l++) {
                    Book.due("kind at level " + l, g.cell(7, l, 5), due[5 - l]);
                    Book.due("weight at level " + l, g.cell(7, l, 6), 0);
                }
            }
            Gardens.refused("asked alone, nothing is done", x -> x.planted(Gardens.bit(2, 5), -1), 25 * 8);
            Gardens.refused("asked alone, nothing is done", x -> x.planted(Gardens.bit(2, 5), 0), 5);
        });
        Book.promise(28, "-2: it can't be (even without);", () -> {
            CliffGarden g = kinds();
            Gardens.hangColumn(g, 2, 2, 9);
            g.plant(2, 1, 0, 0);
            for (int what : new int[] {-1, 0, 10}) {
                Book.due("what " + what, g.planted(Gardens.bit(2, 0), what), -2);
            }
            Book.due("nothing is done", g.count(6), 1);
            g.knot(2, 0, 10);
            g.knot(2, 1, 10);
            Book.due("without it can be", g.planted(Gardens.bit(2, 0), 0), -1);
            Book.due("without it can be", g.planted(Gardens.bit(2, 0), 10), 0);
        });
        Book.promise(28, "-3: no such ones,", () -> {
            for (long no : new long[] {0, 1L << 48, 1L | 1L << 48, 1L << 63, -1, Long.MAX_VALUE}) {
                Gardens.refused("cells " + no, g -> g.planted(no, -1), -3);
                Gardens.refused("cells " + no + ", done", g -> g.planted(no, 10), -3);
            }
            CliffGarden g = Gardens.column(0, 6, 9999);
            Book.due("six", g.planted(63, -1), -3);
            Book.due("six", g.planted(63, 10), -3);
            Book.due("five", g.planted(62, -1), 250);
        });
        Book.promise(28, "one does not HANG,", () -> {
            for (int n = 0; n < 48; n++) {
                Book.due("cell " + n, new CliffGarden().planted(1L << n, -1), -3);
            }
            Gardens.refused("one", g -> g.planted(Gardens.bit(1, 0), -1), -3);
            Gardens.refused("the last", g -> g.planted(Gardens.bit(2, 5) | Gardens.bit(7, 5), 10), -3);
            Gardens.refused("the first", g -> g.planted(Gardens.bit(0, 1) | Gardens.bit(2, 5), 0), -3);
        });
        Book.promise(28, "has a CROP,", () -> {
            for (int n = 0; n < 48; n++) {
                CliffGarden full = Gardens.column(n / 6, 6, 9999);
                Book.due("empty cell " + n, full.planted(1L << n, 0), 0);
                full.plant(n / 6, n % 6, 3, 0);
                Book.due("full cell " + n, full.planted(1L << n, 0), -3);
            }
            Gardens.refused("one", g -> g.planted(Gardens.bit(2, 0), -1), -3);
            Gardens.refused("the last", g -> g.planted(Gardens.bit(2, 5) | Gardens.bit(3, 1), 10), -3);
            Gardens.refused("the first", g -> g.planted(Gardens.bit(2, 0) | Gardens.bit(2, 5), 0), -3);
        });
        Book.promise(28, "no such place.", () -> {
            for (int no : new int[] {-2, 2, 4, 5, 9, 11, Gardens.MIN, Gardens.MAX}) {
                Gardens.refused("place " + no, g -> g.planted(Gardens.bit(2, 4) | Gardens.bit(2, 5), no), -3);
            }
        });
    }

    /** COLUMNS 1 to 4 with a CROP of KIND 1 to 4 each, that NEEDS 20; g by a law. */
    private static CliffGarden dry(String law) {
        CliffGarden g = new CliffGarden();
        for (int c = 1; c <= 4; c++) {
            g.hang(c, 0, 0, 999, 0, 0);
            g.kind(c, 20, 50, 1);
            g.plant(c, 0, c, 200);
        }
        Gardens.lay(g, law);
        return g;
    }

    private static void droughtOfColumns() {
        Book.terms("DROUGHT: so many drops (0 to 36) for VALVES of told COLUMNS (1 to 4 of them; each 0 to 9, together"
                + " not more; all others shut):", () -> {
            CliffGarden g = dry("gw(1=1)");
            for (int drops = 0; drops <= 36; drops++) {
                Book.due(drops + " for four", g.drought(drops, 0b11110, -1), drops);
                Book.due(drops + " for one", g.drought(drops, 0b10, -1), Math.min(9, drops));
                Book.due(drops + " for two", g.drought(drops, 0b110, -1), Math.min(18, drops));
            }
            Book.due("9 at most", g.drought(36, 0b10, 0), 9);
            Book.due("-1", g.drought(-1, 0b10, -1), -2);
            Book.due("37", g.drought(37, 0b10, -1), -2);
            for (int c = 0; c < 8; c++) {
                g.valve(c, 99);
            }
            Book.due("all others shut", g.drought(5, 0b10, -1), 5);
            Book.due("its own valve is not as told", g.drought(0, 0b10, -1), 0);
            Book.due("valves stay", g.count(11), 99);
        });
    }

    private static void mostGrowth() {
        Book.terms("by which g of all CROPS, together, would be most on this day behind its WATER"
                + " (also beyond a WEIGHT of 200);", () -> {
            CliffGarden g = dry("gw*x(1=1)");
            Book.due("9 to the fourth, 3 to the third", g.drought(12, 0b11110, -1), 36 + 9);
            Book.due("beyond 200", g.cell(4, 0, 6), 200);
            g = dry("gw*9(1=1)");
            Book.due("g's own bound holds", g.drought(9, 0b10, -1), 50);
            Book.due("and six reach it", g.drought(9, 0b10, 0), 6);
            g = dry("g5(w=0);g7(w=2);g1(w>5)");
            Book.due("crops without water grow, too", g.drought(0, 0b10, -1), 20);
            Book.due("those of columns that are not told", g.drought(2, 0b10, -1), 22);
            Book.due("two of four with two", g.drought(4, 0b11110, -1), 24);
            g = dry("gw+d(1=1)");
            g.day();
            g.day();
            Book.due("on this day", g.drought(3, 0b10, -1), 3 + 8);
            Book.due("kept as before", g.cell(1, 0, 8), 0);
            g = new CliffGarden();
            g.hang(3, 0, 0, 99, 0, 3);
            Gardens.hangColumn(g, 2, 2, 99);
            Gardens.hangColumn(g, 4, 2, 99);
            g.kind(0, 3, 50, 1);
            g.plant(2, 1, 0, 0);
            g.plant(4, 1, 0, 0);
            Gardens.lay(g, "gw(1=1)");
            Book.due("by its ways", g.drought(9, 0b1000, -1), 6);
            meetingDrops();
            everyCellGrows();
            Book.due("six serve both", g.drought(9, 0b1000, 0), 6);
            Book.due("the odd one to the left", g.drought(5, 0b1000, 0), 5);
            Book.due("no crop", new CliffGarden().drought(9, 1, -1), 0);
        });
        Book.terms("of like ones the least row.", () -> {
            CliffGarden g = dry("gw(1=1)");
            int[] least = {0, 0, 3, 9};
            for (int i = 0; i < 4; i++) {
                Book.due("12 among four, place " + i, g.drought(12, 0b11110, i), least[i]);
            }
            g = dry("g5(w>2)");
            int[] two = {0, 3, 3, 3};
            for (int i = 0; i < 4; i++) {
                Book.due("no more than serves, place " + i, g.drought(11, 0b11110, i), two[i]);
            }
            Book.due("nothing serves", dry("g5(1=1)").drought(36, 0b11110, 3), 0);
        });
    }

    /** Drops of three VALVES come to one CELL that NEEDS 20. */
    private static void meetingDrops() {
        CliffGarden g = new CliffGarden();
        for (int c = 2; c <= 4; c++) {
            g.hang(c, 0, 0, 99, 0, new int[] {2, 0, 1}[c - 2]);
        }
        g.hang(3, 1, 0, 99, 0, 0);
        g.kind(0, 20, 50, 1);
        g.plant(3, 1, 0, 0);
        Gardens.lay(g, "gw(1=1)");
        Book.due("all its need", g.drought(36, 0b11100, -1), 20);
        int[] least = {2, 9, 9};
        for (int i = 0; i < 3; i++) {
            Book.due("place " + i, g.drought(36, 0b11100, i), least[i]);
        }
        g.kind(0, 19, 50, 1);
        Book.due("one less", g.drought(36, 0b11100, -1), 19);
    }

    private static void everyCellGrows() {
        for (int n = 0; n < 48; n++) {
            CliffGarden g = Gardens.column(n / 6, 6, 99);
            g.kind(0, 20, 50, 1);
            g.plant(n / 6, n % 6, 0, 0);
            Gardens.lay(g, "gw+1(1=1)");
            Book.due("cell " + n + " grows", g.drought(7, 1 << n / 6, -1), 8);
            Book.due("by its valve", g.drought(7, 1 << n / 6, 0), 7);
            Book.due("not by another", g.drought(7, 1 << (n / 6 + 1) % 8, -1), 1);
        }
    }

    private static void promiseOfDrought() {
        Book.promise(29, "DROUGHT, what NONE growth together, else the VALVE at place what (by COLUMNS);", () -> {
            CliffGarden g = dry("gw*x(1=1)");
            Book.due("growth", g.drought(20, 0b11110, -1), 36 + 27 + 4);
            int[] valves = {0, 2, 9, 9};
            for (int i = 0; i < 4; i++) {
                Book.due("place " + i, g.drought(20, 0b11110, i), valves[i]);
            }
            Book.due("by the told columns alone", g.drought(9, 0b10010, 1), 9);
            Book.due("the last column", g.drought(9, 0b10000000, 0), 0);
            Gardens.refused("nothing is done", x -> x.drought(0, 1, 0), 0);
            Gardens.refused("nothing is done", x -> x.drought(36, 0b10000001, 1), 0);
        });
        Book.promise(29, "-2: no such ones,", () -> {
            for (int no : new int[] {-1, 37, Gardens.MIN, Gardens.MAX}) {
                Gardens.refused("drops " + no, g -> g.drought(no, 1, -1), -2);
            }
            for (int no : new int[] {0, 256, 257, 31, 255, 511, -1, Gardens.MIN, Gardens.MAX}) {
                Gardens.refused("columns " + no, g -> g.drought(5, no, -1), -2);
            }
        });
        Book.promise(29, "no such place.", () -> {
            for (int no : new int[] {-2, 2, 4, 10, Gardens.MIN, Gardens.MAX}) {
                Gardens.refused("place " + no, g -> g.drought(1, 3, no), -2);
            }
            Book.due("a fifth", dry("gw(1=1)").drought(1, 0b11110, 4), -2);
        });
    }

    private static void mendingHours() {
        Book.terms("MENDED first: of told CELLS (8 at most, that do not HANG) each takes 1 and LEVEL hours;", () -> {
            CliffGarden g = new CliffGarden();
            for (int l = 0; l < 6; l++) {
                Book.due("hours at level " + l, g.mended(Gardens.bit(4, l), -1), 1 + l);
            }
            Book.due("one after another", g.mended(3, -1), 1 + 3);
            Book.due("eight", g.mended(255, -1), 1 + 2 + 4 + 6 + 9 + 13 + 18 + 24);
            Book.due("nine", g.mended(511, -1), -3);
            g.hang(4, 0, 0, 0, 0, 0);
            Book.due("one that hangs", g.mended(Gardens.bit(4, 0), -1), -3);
        });
        Book.terms("one whose upper neighbour is among them comes behind it;", () -> {
            CliffGarden g = new CliffGarden();
            g.rope(0, 0, 0);
            g.rope(1, 0, 5);
            long cells = 3L | Gardens.bit(1, 1);
            int[] row = {7, 0, 1};
            for (int i = 0; i < 3; i++) {
                Book.due("the free ones last, place " + i, g.mended(cells, i), row[i]);
            }
            g.rope(2, 0, 99);
            g.rope(3, 0, 50);
            long chain = Gardens.bit(2, 3) | Gardens.bit(2, 4) | Gardens.bit(3, 3);
            int[] order = {15, 16, 21};
            for (int i = 0; i < 3; i++) {
                Book.due("upper, then lower, place " + i, g.mended(chain, i), order[i]);
            }
            long gap = Gardens.bit(2, 0) | Gardens.bit(2, 2);
            Book.due("two levels up is no neighbour", g.mended(gap, 0), 12);
            g.rope(0, 0, 1);
            Book.due("the lowest of a column is not above the next column", g.mended(1L << 5 | 1L << 6, 0), 6);
            Book.due("nor when it is dear", dearLowest(), 5);
            long lower = Gardens.bit(2, 4) | Gardens.bit(3, 0);
            Book.due("one whose upper neighbour is not among them", g.mended(lower, 0), 18);
        });
    }

    /** The first one mended: LEVEL 5 of COLUMN 0, an hour of which is dear, or LEVEL 0 of COLUMN 1, that is free. */
    private static int dearLowest() {
        CliffGarden g = new CliffGarden();
        g.rope(0, 0, 99);
        g.rope(1, 0, 0);
        return g.mended(1L << 5 | 1L << 6, 0);
    }

    private static void mendingCosts() {
        Book.terms("each costs, till it is done, a told worth an hour (of its COLUMN, 0 to 99; 1 at first):", () -> {
            CliffGarden g = new CliffGarden();
            for (int c = 0; c < 8; c++) {
                Book.due("at first", g.mended(Gardens.bit(c, 2), -1), 3);
                Book.due("most", g.rope(c, 0, 99), true);
                Book.due("too much", g.rope(c, 0, 100), false);
                Book.due("cost", g.mended(Gardens.bit(c, 2), -1), 297);
                Book.due("least", g.rope(c, 0, 0), true);
                Book.due("too little", g.rope(c, 0, -1), false);
                Book.due("cost", g.mended(Gardens.bit(c, 2), -1), 0);
            }
            g.rope(0, 0, 7);
            g.rope(1, 0, 3);
            Book.due("waiting costs", g.mended(1L | 1L << 6, -1), 7 + 2 * 3);
        });
        Book.terms("the row of least cost together; of like ones the least.", () -> {
            CliffGarden g = new CliffGarden();
            g.rope(1, 0, 2);
            long alike = Gardens.bit(0, 0) | Gardens.bit(1, 1);
            Book.due("1 an hour for 1, 2 an hour for 2", g.mended(alike, -1), 1 + 6);
            Book.due("the least first", g.mended(alike, 0), 0);
            g.rope(1, 0, 3);
            Book.due("dearer by the hour", g.mended(alike, 0), 7);
            Book.due("cost", g.mended(alike, -1), 6 + 3);
            for (int c = 0; c < 8; c++) {
                g.rope(c, 0, 0);
            }
            for (int i = 0; i < 8; i++) {
                int due = new int[] {0, 1, 2, 6, 12, 18, 24, 30}[i];
                Book.due("all free, place " + i, g.mended(0x41041041L | 6L, i), due);
            }
        });
    }

    private static void promiseOfMended() {
        Book.promise(30, "MENDED first, what NONE the cost, else the CELL at place what;", () -> {
            CliffGarden g = new CliffGarden();
            long cells = Gardens.bit(7, 5) | Gardens.bit(3, 0) | Gardens.bit(5, 1);
            Book.due("cost", g.mended(cells, -1), 1 + 3 + 9);
            int[] row = {18, 31, 47};
            for (int i = 0; i < 3; i++) {
                Book.due("place " + i, g.mended(cells, i), row[i]);
            }
            Gardens.refused("nothing is done", x -> x.mended(Gardens.bit(1, 0), -1), 3);
            Gardens.refused("nothing is done", x -> x.mended(Gardens.bit(1, 0), 0), 6);
        });
        Book.promise(30, "-3: no such ones,", () -> {
            for (long no : new long[] {0, 511L << 18, 1L << 48, 1L << 6 | 1L << 48, 1L << 63, -1, Long.MAX_VALUE}) {
                Gardens.refused("cells " + no, g -> g.mended(no, -1), -3);
            }
        });
        Book.promise(30, "one HANGS,", () -> {
            Gardens.refused("one", g -> g.mended(Gardens.bit(2, 0), -1), -3);
            Gardens.refused("the first", g -> g.mended(Gardens.bit(0, 0) | Gardens.bit(1, 0), 0), -3);
            Gardens.refused("the last", g -> g.mended(Gardens.bit(1, 0) | Gardens.bit(3, 2), 0), -3);
        });
        Book.promise(30, "no such place.", () -> {
            for (int no : new int[] {-2, 2, 8, Gardens.MIN, Gardens.MAX}) {
                Gardens.refused("place " + no, g -> g.mended(Gardens.bit(1, 0) | Gardens.bit(1, 1), no), -3);
            }
            Book.due("the eighth", new CliffGarden().mended(255, 7), 5);
            Book.due("a ninth", new CliffGarden().mended(255, 8), -3);
        });
    }

    private static void hail() {
        Book.terms("ROOFS under HAIL: of each CELL of a COLUMN that HANGS with a CROP of some KINDS (as bits)"
                + " a bean (WEIGHT 1) falls: how many KITCHENS have some bean"
                + " whose LEVELS fallen are above their ROOF.", () -> {
            for (int l = 0; l < 6; l++) {
                CliffGarden g = Gardens.column(3, 6, 9999);
                g.plant(3, l, 4, 200);
                g.kitchen(3, 0, 6 - l);
                Book.due("not above, level " + l, g.hail(16), 0);
                g.kitchen(3, 0, 5 - l);
                Book.due("above, level " + l, g.hail(16), 1);
                Book.due("other kinds", g.hail(63 - 16), 0);
                Book.due("among others", g.hail(63), 1);
            }
            CliffGarden g = new CliffGarden();
            for (int c = 0; c < 8; c++) {
                Gardens.hangColumn(g, c, 2, 9999);
                g.plant(c, c % 2, c % 6, 0);
                g.kitchen(c, 0, 5);
            }
            Book.due("four fall six levels", g.hail(63), 4);
            g.plant(1, 0, 0, 1);
            Book.due("some bean is enough", g.hail(63), 5);
            Book.due("each kitchen once", g.hail(1), 3);
            Gardens.lay(g, "c1(1=1)");
            Book.due("nothing falls in truth", g.hail(63), 5);
            Book.due("no falls", g.count(2), 0);
            Book.due("no holes", g.kitchenIs(0, 3), 0);
            g.knot(0, 0, 0);
            g.plant(0, 1, 0, 9);
            g.go();
            Book.due("what hangs no more", g.hail(63), 4);
        });
        Book.promise(31, "ROOFS under HAIL of KINDS (0 to 63): how many KITCHENS;", () -> {
            CliffGarden g = Gardens.column(3, 6, 9999);
            g.kitchen(3, 0, 0);
            for (int k = 0; k < 6; k++) {
                g.plant(3, k, k, 1);
            }
            Book.due("no kinds", g.hail(0), 0);
            for (int kinds = 1; kinds < 64; kinds++) {
                Book.due("kinds " + kinds, g.hail(kinds), 1);
                g.kitchen(3, 0, 6 - Integer.numberOfTrailingZeros(kinds));
                Book.due("kinds " + kinds + ", the highest not above", g.hail(kinds), 0);
                g.kitchen(3, 0, 0);
            }
            Gardens.refused("nothing is done", x -> x.hail(63), 0);
        });
        Book.promise(31, "NONE: no such ones.", () -> {
            for (int no : new int[] {-1, 64, 65, 127, Gardens.MIN, Gardens.MAX}) {
                Gardens.refused("kinds " + no, g -> g.hail(no), -1);
            }
        });
    }

    /** COLUMN 5: WEIGHTS 7, none, 0, 200, none, and it does not HANG below; then its numbers are fed. */
    private static CliffGarden fed(int... numbers) {
        CliffGarden g = Gardens.column(5, 5, 9999);
        g.plant(5, 0, 1, 7);
        g.plant(5, 2, 1, 0);
        g.plant(5, 3, 5, 200);
        for (int i = 0; i < numbers.length; i += 5) {
            int[] five = {-1, -1, -1, -1, -1};
            System.arraycopy(numbers, i, five, 0, Math.min(5, numbers.length - i));
            g.feed(five[0], five[1], five[2], five[3], five[4]);
        }
        return g;
    }

    private static void check() {
        int[] right = {7, -1, 0, 200, -1, -1};
        Book.terms("CHECK of a COLUMN: WEIGHTS of its CELLS by LEVELS (-1: it does not HANG or has no CROP):"
                + " right, or the first number that is not so.", () -> {
            Book.due("right", fed(right).check(5, 6), -1);
            for (int i = 0; i < 6; i++) {
                int due = right[i];
                for (int other : new int[] {-1, 0, 7, 199, 200, 201, due ^ 1 << 24, due ^ 1 << 8, ~due}) {
                    int[] numbers = right.clone();
                    numbers[i] = other;
                    Book.due(other + " at " + i, fed(numbers).check(5, 6), other == right[i] ? -1 : i);
                    if (i < 5) {
                        numbers[5] = 9;
                        Book.due("the first one", fed(numbers).check(5, 6), other == right[i] ? 5 : i);
                    }
                }
            }
            Book.due("an empty column", fed(-1, -1, -1, -1, -1, -1).check(4, 6), -1);
            Book.due("caught is no crop", Gardens.rich().cell(2, 4, 7), 15);
        });
        Book.promise(32, "CHECK of a COLUMN by the first n numbers of the tape (four bytes each; empty then):"
                + " NONE: right;", () -> {
            CliffGarden g = fed(right);
            Book.due("bytes", g.count(4), 40);
            Book.due("the first six of ten", g.check(5, 6), -1);
            Book.due("empty then", g.count(4), 0);
            g = fed(9, 9, 9, 9, 9, 9);
            Book.due("empty then, though not so", 100 * g.check(5, 6) + g.count(4), 0);
        });
        Book.promise(32, "else the place of the first number that is not so (n: some are lacking);", () -> {
            for (int n = 0; n < 6; n++) {
                CliffGarden g = fed(right);
                Book.due(n + " numbers", g.check(5, n), n);
                Book.due("empty then", g.count(4), 0);
            }
            Book.due("none on an empty tape", new CliffGarden().check(0, 0), 0);
            Book.due("a wrong one ahead of those that lack", fed(7, 5).check(5, 2), 1);
            Book.due("a wrong one behind n", fed(7, 5).check(5, 1), 1);
            Book.due("a wrong one far behind n", fed(7, -1, 0, 5).check(5, 1), 1);
            for (int n = 7; n <= 10; n++) {
                Book.due("a seventh number is not so", fed(right).check(5, n), 6);
            }
        });
        Book.promise(32, "-2: no such one,", () -> {
            for (int no : Gardens.NO_COLUMNS) {
                Gardens.refused("column " + no, g -> g.check(no, 1), -2);
            }
            Gardens.refused("n -1", g -> g.check(2, -1), -2);
            Gardens.refused("n least", g -> g.check(2, Gardens.MIN), -2);
        });
        Book.promise(32, "it has not so many (the tape stays).", () -> {
            for (int n : new int[] {6, 7, 55, 56, 1 << 30, (1 << 30) + 1, Gardens.MAX}) {
                Gardens.refused("n " + n, g -> g.check(2, n), -2);
            }
            Book.due("an empty tape", new CliffGarden().check(0, 1), -2);
            CliffGarden g = fed(right);
            Book.due("ten", g.check(5, 11), -2);
            Book.due("the tape stays", g.count(4), 40);
            Book.due("the tape stays", g.check(5, 6), -1);
        });
    }
}

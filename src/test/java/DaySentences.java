/** Sentences on what happens: WATER, LOAD, FALLS, KNOTS that GO, TORN, A DAY. */
final class DaySentences {
    private DaySentences() {
    }

    static void all() {
        water();
        load();
        fall();
        writtenFalls();
        knotsGo();
        whatIsLost();
        neighbours();
        torn();
        growth();
        drawing();
        ageing();
        promisesOfWaterAndFall();
        promisesOfGoAndDay();
        promisesOfTornAndFalls();
        refusedCalls();
    }

    private static void water() {
        Book.terms("==== 2. WATER of a day: LEVEL by LEVEL, COLUMN by COLUMN:"
                + " what comes to a CELL (at LEVEL 0 from its VALVE):", () -> {
            CliffGarden g = new CliffGarden();
            g.hang(2, 0, 0, 99, 0, 2);
            g.hang(4, 0, 0, 99, 0, 1);
            Gardens.hangColumn(g, 3, 2, 99);
            g.kind(0, 20, 50, 1);
            g.plant(3, 0, 0, 0);
            g.plant(3, 1, 0, 0);
            g.valve(2, 5);
            g.valve(4, 6);
            g.water();
            Book.due("level 0 has its own valve's alone", g.cell(3, 0, 8), 0);
            Book.due("from both sides to level 1", g.cell(3, 1, 8), 11);
            g.valve(3, 20);
            g.water();
            Book.due("from its valve", g.cell(3, 0, 8), 20);
            Book.due("from both sides", g.cell(3, 1, 8), 11);
        });
        Book.terms("if it HANGS it KEEPS as much as the NEED of its CROP's KIND (no CROP: nothing),", () -> {
            int[][] needAndDrops = {{5, 4}, {5, 5}, {5, 6}, {0, 9}, {20, 99}, {20, 0}, {1, 1}};
            for (int[] n : needAndDrops) {
                CliffGarden g = Gardens.column(0, 6, 999);
                g.kind(2, n[0], 50, 1);
                g.plant(0, 5, 2, 0);
                g.valve(0, n[1]);
                int kept = Math.min(n[0], n[1]);
                Book.due("the rest", g.water(), n[1] - kept);
                Book.due("kept of " + n[1] + " with need " + n[0], g.cell(0, 5, 8), kept);
                for (int l = 0; l < 5; l++) {
                    Book.due("no crop", g.cell(0, l, 8), 0);
                }
                g.fall(0, 5);
                Book.due("kept stays when the crop is gone", g.cell(0, 5, 8), kept);
                Book.due("no crop, nothing", g.water(), n[1]);
                Book.due("no crop, nothing", g.cell(0, 5, 8), 0);
            }
        });
        Book.terms("the rest goes on by its WAY to the next LEVEL;", () -> {
            CliffGarden g = new CliffGarden();
            g.hang(1, 0, 0, 99, 0, 3);
            g.kind(0, 2, 50, 1);
            g.kind(1, 20, 50, 1);
            g.plant(1, 0, 0, 0);
            for (int c = 0; c <= 2; c += 2) {
                Gardens.hangColumn(g, c, 3, 99);
                g.plant(c, 0, 1, 0);
                g.plant(c, 1, 1, 0);
            }
            g.valve(1, 9);
            Book.due("all is kept", g.water(), 0);
            Book.due("its need", g.cell(1, 0, 8), 2);
            Book.due("not on its own level", g.cell(0, 0, 8) + g.cell(2, 0, 8), 0);
            Book.due("left", g.cell(0, 1, 8), 4);
            Book.due("right", g.cell(2, 1, 8), 3);
        });
        Book.terms("if it does not, all goes straight down.", () -> {
            CliffGarden g = new CliffGarden();
            g.hang(3, 0, 0, 5, 0, 3);
            g.plant(3, 0, 0, 6);
            g.valve(3, 9);
            Book.due("it goes", g.go(), 1);
            Book.due("water", g.water(), 9);
            Book.due("no way, no crop any more", g.kitchenIs(3, 2), 9);
            g.hang(2, 0, 0, 5, 0, 2);
            g.valve(2, 4);
            g.water();
            Book.due("through what does not hang below", g.kitchenIs(3, 2), 22);
        });
        Book.terms("Below LEVEL 5: to the KITCHEN of that COLUMN.", () -> {
            for (int way = 0; way <= 3; way++) {
                CliffGarden g = Gardens.column(4, 5, 99);
                g.hang(4, 5, 0, 99, 0, way);
                g.valve(4, 9);
                Book.due("water", g.water(), 9);
                int[][] due = {{0, 9, 0}, {9, 0, 0}, {0, 0, 9}, {5, 0, 4}};
                for (int c = 3; c <= 5; c++) {
                    Book.due("way " + way + " to " + c, g.kitchenIs(c, 2), due[way][c - 3]);
                }
                g.water();
                Book.due("and more", g.kitchenIs(3, 2), 2 * due[way][0]);
            }
        });
    }

    private static void load() {
        Book.terms("LOAD of a CELL's KNOT: of it and all CELLS that HANG below it in its COLUMN: ten times SOIL,"
                + " WEIGHT, CAUGHT, KEPT, together.", () -> {
            CliffGarden g = new CliffGarden();
            Gardens.lay(g, "c1(l=5)");
            for (int l = 0; l < 6; l++) {
                g.hang(2, l, l + 1, 9999, 0, 0);
                g.hang(1, l, 9, 9999, 0, 0);
                g.hang(3, l, 9, 9999, 0, 0);
            }
            g.plant(2, 4, 0, 200);
            g.fall(2, 4);
            g.plant(2, 3, 0, 30);
            g.kind(0, 7, 50, 1);
            g.valve(2, 7);
            g.water();
            int[] due = {447, 437, 417, 387, 310, 260};
            for (int l = 0; l < 6; l++) {
                Book.due("load at level " + l, g.cell(2, l, 10), due[l]);
            }
            g.hang(0, 0, 0, 0, 0, 0);
            Book.due("nothing", g.cell(0, 0, 10), 0);
            g.knot(2, 4, 309);
            g.go();
            Book.due("what hangs no more does not count", g.cell(2, 3, 10), 77);
            Book.due("what hangs no more does not count", g.cell(2, 0, 10), 137);
        });
        Book.terms("It BEARS if that is not above KNOT.", () -> {
            for (int knot = 59; knot <= 61; knot++) {
                CliffGarden g = Gardens.column(2, 1, knot);
                g.plant(2, 0, 0, 60);
                Book.due("60 at " + knot, g.go(), knot < 60 ? 1 : 0);
            }
            CliffGarden g = Gardens.column(2, 1, 0);
            Book.due("0 at 0", g.go(), 0);
            g.plant(2, 0, 0, 1);
            Book.due("1 at 0", g.go(), 1);
        });
    }

    private static void fall() {
        Book.terms("A FALL: a CROP falls from a CELL (this has none then):", () -> {
            CliffGarden g = Gardens.rich();
            g.fall(2, 0);
            Book.due("kind", g.cell(2, 0, 5), -1);
            Book.due("weight", g.cell(2, 0, 6), 0);
            Book.due("pollinated", g.cell(2, 0, 9), 0);
            Book.due("it hangs", g.cell(2, 0, 0), 1);
            Book.due("crops", g.count(6), 2);
            Book.due("no second fall", g.fall(2, 0), -1);
        });
        Book.terms("down its COLUMN from LEVEL to LEVEL: the first CELL that HANGS and catches it has it CAUGHT"
                + " (its WEIGHT, there it lies);", () -> {
            for (int from = 0; from < 6; from++) {
                CliffGarden g = Gardens.column(5, 6, 9999);
                Gardens.hangColumn(g, 6, 6, 9999);
                Gardens.lay(g, "c1(l=0|l=2|l=3|l=5)");
                g.plant(5, from, 0, 44);
                int[] lies = {2, 2, 3, 5, 5, 6};
                Book.due("from " + from, g.fall(5, from), lies[from]);
                for (int l = 0; l < 6; l++) {
                    Book.due("caught at " + l, g.cell(5, l, 7), l == lies[from] ? 44 : 0);
                    Book.due("not beside", g.cell(6, l, 7), 0);
                }
                Book.due("written so", g.fallIs(0, 4), lies[from]);
                Book.due("no food but in the kitchen", g.food(0), from == 5 ? 44 : 0);
            }
            CliffGarden g = Gardens.column(5, 3, 9999);
            Gardens.lay(g, "c1(l>3)");
            g.plant(5, 1, 0, 44);
            Book.due("one that does not hang catches nothing", g.fall(5, 1), 6);
            g.plant(5, 1, 0, 44);
            g.plant(5, 2, 0, 10);
            Gardens.lay(g, "c1(1=1)");
            Book.due("one with a crop catches, too", g.fall(5, 1), 2);
            Book.due("its crop stays", g.cell(5, 2, 6), 10);
        });
        Book.terms("else it comes into the KITCHEN: FOOD more by its WEIGHT times the KIND's WORTH"
                + " for the PERSON by o;", () -> {
            CliffGarden g = Gardens.column(5, 1, 9999);
            Gardens.lay(g, "o3(y>5);o4(y=0)");
            int[][] kindWeightFood = {{5, 200, 19800}, {0, 200, 0}, {5, 6, 594}};
            g.kind(5, 0, 1, 99);
            g.kind(0, 0, 1, 0);
            int food = 0;
            for (int[] f : kindWeightFood) {
                g.plant(5, 0, f[0], f[1]);
                Book.due("fall", g.fall(5, 0), 6);
                food += f[2];
                Book.due("food", g.food(3), food);
            }
            g.plant(5, 0, 5, 5);
            g.fall(5, 0);
            Book.due("no clause: person 0", g.food(0), 495);
            g.plant(5, 0, 5, 0);
            g.fall(5, 0);
            Book.due("weight 0", g.food(4), 0);
            Book.due("whose, though", g.fallIs(4, 5), 4);
        });
        Book.terms("a HOLE, if WEIGHT times LEVELS fallen (to the KITCHEN: 6 less its LEVEL)"
                + " is above the ROOF.", () -> {
            for (int from = 0; from < 6; from++) {
                CliffGarden g = Gardens.column(5, 6, 9999);
                g.kitchen(5, 0, 10 * (6 - from));
                g.plant(5, from, 0, 10);
                g.fall(5, from);
                Book.due("not above, from " + from, g.kitchenIs(5, 3), 0);
                g.kitchen(5, 0, 10 * (6 - from) - 1);
                g.plant(5, from, 0, 10);
                g.fall(5, from);
                Book.due("above, from " + from, g.kitchenIs(5, 3), 1);
                Book.due("no other kitchen", g.kitchenIs(4, 3) + g.kitchenIs(6, 3), 0);
            }
            CliffGarden g = Gardens.column(5, 2, 9999);
            g.kitchen(5, 0, 0);
            g.plant(5, 0, 0, 0);
            g.fall(5, 0);
            Book.due("0 is not above 0", g.kitchenIs(5, 3), 0);
            Gardens.lay(g, "c1(1=1)");
            g.plant(5, 0, 0, 200);
            g.fall(5, 0);
            Book.due("what is caught makes none", g.kitchenIs(5, 3), 0);
            g.plant(5, 1, 0, 1);
            g.fall(5, 1);
            Book.due("1 is above 0", g.kitchenIs(5, 3), 1);
        });
    }

    private static void writtenFalls() {
        Book.terms("FALLS are written (60 at most; further ones happen, but are not written).", () -> {
            CliffGarden g = Gardens.column(0, 2, 9999);
            g.kitchen(0, 0, 0);
            Gardens.lay(g, "c1(y=1);o1(1=1);qb(1=1)");
            for (int i = 0; i < 60; i++) {
                Book.due("written", g.count(2), i);
                Book.due("not yet", g.fallIs(i, 0), -1000);
                g.plant(0, 1, i % 6, 2);
                g.fall(0, 1);
                Book.due("is", g.fallIs(i, 2), i % 6);
            }
            Book.due("60", g.count(2), 60);
            g.plant(0, 1, 5, 100);
            Book.due("the 61st happens", g.fall(0, 1), 6);
            Book.due("has none then", g.cell(0, 1, 5), -1);
            Book.due("food", g.food(1), 220);
            Book.due("holes", g.kitchenIs(0, 3), 61);
            Book.due("not written", g.count(2), 60);
            Book.due("not written", g.fallIs(60, 0), -1000);
            Book.due("not claimed", g.claimed(60, 2), -1);
            Book.due("not put to rights", g.right(60, 4), -1);
            Book.due("the 60th stays", g.fallIs(59, 3), 2);
            Book.due("the 60th stays", g.claimed(59, 255), 7);
            g.plant(0, 0, 5, 1);
            Book.due("one more is caught", g.fall(0, 0), 1);
            Book.due("one more is caught", g.cell(0, 1, 7), 1);
            g.plant(0, 0, 5, 77);
            g.knot(0, 0, 0);
            Book.due("knots go", g.go(), 2);
            Book.due("further food", g.food(1), 297);
            Book.due("still 60", g.count(2), 60);
        });
    }

    private static void knotsGo() {
        Book.terms("KNOTS GO: while some KNOT does not BEAR: the first one (by COLUMNS, then LEVELS):", () -> {
            CliffGarden g = new CliffGarden();
            for (int c = 1; c <= 6; c += 5) {
                g.hang(c, 0, 1, 10, 0, 0);
                g.hang(c, 1, 1, 0, 0, 0);
                g.plant(c, 0, 0, 5);
                g.plant(c, 1, 0, 5);
            }
            Book.due("all go, by two that are first", g.go(), 4);
            int[][] order = {{1, 1}, {1, 0}, {6, 1}, {6, 0}};
            for (int i = 0; i < 4; i++) {
                Book.due("column of fall " + i, g.fallIs(i, 0), order[i][0]);
                Book.due("level of fall " + i, g.fallIs(i, 1), order[i][1]);
            }
            g = Gardens.column(2, 3, 100);
            Gardens.hangColumn(g, 1, 1, 100);
            g.plant(2, 0, 0, 60);
            g.plant(2, 2, 0, 60);
            g.knot(2, 2, 59);
            Book.due("the upper one first, with all below", g.go(), 3);
            Book.due("torn at once, by all its load", g.cell(1, 0, 1), 88);
            g = Gardens.column(2, 3, 100);
            Gardens.hangColumn(g, 1, 1, 100);
            g.plant(2, 2, 0, 60);
            g.knot(2, 2, 59);
            Book.due("the lowest alone", g.go(), 1);
            Book.due("nobody beside it", g.cell(1, 0, 1), 100);
            Book.due("the rest bears then", g.count(0), 3);
        });
        Book.terms("this CELL and all that HANG below it go: from the lowest on their CROPS fall into the KITCHEN"
                + " (nothing catches),", () -> {
            CliffGarden g = Gardens.column(2, 6, 9999);
            Gardens.lay(g, "c1(1=1);om(1=1)");
            g.kitchen(2, 0, 29);
            for (int l = 0; l < 6; l += 1) {
                g.plant(2, l, l, 10);
            }
            g.knot(2, 1, 49);
            Book.due("five go", g.go(), 5);
            Book.due("the upper one hangs", g.cell(2, 0, 0), 1);
            Book.due("with its crop", g.cell(2, 0, 6), 10);
            for (int i = 0; i < 5; i++) {
                Book.due("hangs no more", g.cell(2, 1 + i, 0), 0);
                Book.due("from the lowest on", g.fallIs(i, 1), 5 - i);
                Book.due("into the kitchen", g.fallIs(i, 4), 6);
                Book.due("by o", g.fallIs(i, 5), i + 1);
                Book.due("food", g.food(i + 1), 10);
            }
            Book.due("30, 40 and 50 are above 29", g.kitchenIs(2, 3), 3);
        });
    }

    private static void whatIsLost() {
        Book.terms("what they CAUGHT and their SOIL are lost, they HANG no more;", () -> {
            CliffGarden g = new CliffGarden();
            for (int l = 0; l < 3; l++) {
                g.hang(2, l, 3, 9999, 4, 1);
            }
            Gardens.lay(g, "c1(l=2);os(1=1)");
            g.plant(2, 1, 0, 50);
            g.fall(2, 1);
            g.plant(2, 2, 0, 7);
            g.knot(2, 1, 116);
            Book.due("load", g.cell(2, 1, 10), 117);
            Book.due("two go", g.go(), 2);
            Book.due("what was caught is no food", g.food(0), 0);
            Book.due("its crop, by o with its soil", g.food(3), 7);
            Book.due("one fall more", g.count(2), 2);
            Gardens.lay(g, "q1(s=0&b=6);q2(s=3&b=5)");
            Book.due("its soil is lost", g.claimed(1, 255), 6);
            for (int what = 1; what <= 10; what++) {
                Book.due("hangs no more", g.cell(2, 1, what), -1000);
            }
            Book.due("nor is it planted", g.plant(2, 1, 0, 1), false);
            Book.due("nor below it hung", g.hang(2, 2, 0, 0, 0, 0), false);
            Book.due("the upper one has no more load", g.cell(2, 0, 10), 30);
            g.hang(2, 1, 0, 9, 0, 0);
            Book.due("hung anew, caught", g.cell(2, 1, 7), 0);
            Book.due("hung anew, load", g.cell(2, 1, 10), 0);
        });
    }

    private static void neighbours() {
        Book.terms("each CELL beside it on its LEVEL (left, right) that HANGS has its KNOT less by a tenth of the LOAD"
                + " that went (rounded down; not below 0).", () -> {
            int[][] loadAndTenth = {{9, 0}, {10, 1}, {19, 1}, {20, 2}, {199, 19}, {200, 20}};
            for (int[] t : loadAndTenth) {
                CliffGarden g = Gardens.column(3, 2, 1000);
                Gardens.hangColumn(g, 2, 3, 1000);
                Gardens.hangColumn(g, 4, 3, 1000);
                Gardens.hangColumn(g, 1, 3, 1000);
                Gardens.hangColumn(g, 5, 3, 1000);
                g.plant(3, 1, 0, t[0]);
                g.knot(3, 1, 0);
                Book.due("it goes", g.go(), 1);
                for (int c = 1; c <= 5; c++) {
                    for (int l = 0; l < 3; l++) {
                        boolean beside = l == 1 && (c == 2 || c == 4);
                        int due = c == 3 && l > 0 ? -1000 : beside ? 1000 - t[1] : 1000;
                        Book.due("knot " + c + " " + l + " by " + t[0], g.cell(c, l, 1), due);
                    }
                }
            }
            CliffGarden g = Gardens.column(0, 1, 0);
            Gardens.hangColumn(g, 1, 1, 5);
            g.hang(7, 0, 0, 500, 0, 0);
            g.plant(0, 0, 0, 60);
            Book.due("at the left end", g.go(), 1);
            Book.due("not below 0", g.cell(1, 0, 1), 0);
            Book.due("the other end is not beside", g.cell(7, 0, 1), 500);
            g = Gardens.column(7, 1, 0);
            Gardens.hangColumn(g, 6, 1, 6);
            g.hang(0, 0, 0, 500, 0, 0);
            g.plant(7, 0, 0, 60);
            Book.due("at the right end", g.go(), 1);
            Book.due("just 0", g.cell(6, 0, 1), 0);
            Book.due("the other end is not beside", g.cell(0, 0, 1), 500);
            chainOfKnots();
        });
    }

    private static void chainOfKnots() {
        CliffGarden g = new CliffGarden();
        for (int c = 0; c < 8; c++) {
            g.hang(c, 0, 9, c == 7 ? 89 : 98, 0, 0);
        }
        Book.due("one after another, to the left", g.go(), 8);
        g = new CliffGarden();
        for (int c = 0; c < 8; c++) {
            g.hang(c, 0, 9, c == 3 ? 89 : 99, 0, 0);
        }
        Book.due("99 less 9 bears 90", g.go(), 1);
        Book.due("left", g.cell(2, 0, 1), 90);
        Book.due("right", g.cell(4, 0, 1), 90);
        g.knot(5, 0, 0);
        Book.due("81 does not bear, 90 does", g.go(), 2);
        Book.due("those behind the gap hang", g.count(0), 5);
        g = new CliffGarden();
        Gardens.hangColumn(g, 3, 2, 0);
        Gardens.hangColumn(g, 4, 6, 9999);
        g.plant(3, 1, 0, 30);
        Book.due("all load that went, that of the lower one, too", g.go(), 2);
        Book.due("beside the first alone", g.cell(4, 0, 1), 9996);
        Book.due("not beside the lower one", g.cell(4, 1, 1), 9999);
    }

    private static void torn() {
        Book.terms("TORN: which CELLS would go if one did (that one first, then as KNOTS GO),"
                + " nothing being done.", () -> {
            CliffGarden g = new CliffGarden();
            for (int c = 1; c <= 4; c++) {
                for (int l = 0; l < 3; l++) {
                    g.hang(c, l, 2, l == 1 ? 43 : 9999, 0, 0);
                }
            }
            g.plant(1, 2, 0, 3);
            g.knot(4, 1, 44);
            long middle = Gardens.bit(2, 1) | Gardens.bit(2, 2) | Gardens.bit(3, 1) | Gardens.bit(3, 2);
            long first = Gardens.bit(1, 1) | Gardens.bit(1, 2);
            Book.due("from the first on", g.torn(1, 1), first | middle);
            Book.due("from the last on", g.torn(4, 1), first | middle | Gardens.bit(4, 1) | Gardens.bit(4, 2));
            Book.due("one that bears goes as told", g.torn(4, 2), Gardens.bit(4, 2));
            Book.due("at the brow", g.torn(4, 0), 7L << 24);
            for (int c = 1; c <= 4; c++) {
                for (int l = 0; l < 3; l++) {
                    Book.due("hangs", g.cell(c, l, 0), 1);
                    Book.due("knot", g.cell(c, l, 1), l != 1 ? 9999 : c == 4 ? 44 : 43);
                    Book.due("soil", g.cell(c, l, 2), 2);
                }
            }
            Book.due("crop", g.cell(1, 2, 6), 3);
            Book.due("falls", g.count(2), 0);
            Book.due("food", g.food(0), 0);
            g = Gardens.column(6, 1, 9);
            Gardens.hangColumn(g, 0, 2, 9);
            g.plant(0, 1, 0, 10);
            Book.due("others that do not bear go as well", g.torn(6, 0), 3L | Gardens.bit(6, 0));
            g = Gardens.column(0, 2, 9);
            g.plant(0, 1, 0, 100);
            Gardens.hangColumn(g, 1, 2, 200);
            g.plant(1, 1, 0, 191);
            Book.due("that one first, though the one above does not bear", g.torn(0, 1), 2L | 2L << 6);
            Book.due("the upper one first", g.torn(0, 0), 3L | 3L << 6);
        });
    }

    private static void growth() {
        Book.terms("A DAY: WATER; then each CROP (by COLUMNS, LEVELS) grows by g (200 at most);", () -> {
            CliffGarden g = Gardens.column(0, 4, 9999);
            g.kind(0, 9, 50, 1);
            for (int l = 0; l < 4; l++) {
                g.plant(0, l, 0, new int[] {10, 195, 196, 200}[l]);
            }
            g.valve(0, 19);
            Gardens.lay(g, "gw/2(1=1)");
            g.day();
            int[] due = {14, 199, 196, 200};
            for (int l = 0; l < 4; l++) {
                Book.due("grown by what it kept on that day", g.cell(0, l, 6), due[l]);
            }
            Book.due("one drop at level 2", g.cell(0, 2, 8), 1);
            Gardens.lay(g, "g5(1=1)");
            g.day();
            int[] more = {19, 200, 200, 200};
            for (int l = 0; l < 4; l++) {
                Book.due("200 at most", g.cell(0, l, 6), more[l]);
            }
            g = Gardens.column(0, 1, 9999);
            g.kind(0, 1, 50, 1);
            g.plant(0, 0, 0, 49);
            Gardens.lay(g, "g1(r=0);f1000(r=1)");
            Book.due("it falls as it has grown", g.day(), 1);
            Book.due("50", g.fallIs(0, 3), 50);
        });
    }

    private static void drawing() {
        Book.terms("then by COLUMNS, LEVELS each CELL that HANGS with a CROP: X = (25173 X + 13849) modulo 65536"
                + " (X is THE SEED at first, 1):", () -> {
            CliffGarden g = Gardens.column(0, 1, 9999);
            g.day();
            Book.due("no crop, nothing drawn", g.count(5), 1);
            g.plant(0, 0, 0, 1);
            long x = 1;
            for (int i = 0; i < 40; i++) {
                x = (25173 * x + 13849) % 65536;
                g.day();
                Book.due("drawn", g.count(5), x);
            }
            g.seed(65535);
            g.day();
            Book.due("from the last one", g.count(5), (25173L * 65535 + 13849) % 65536);
            Gardens.hangColumn(g, 7, 6, 9999);
            g.plant(7, 5, 0, 1);
            g.plant(7, 0, 0, 1);
            g.seed(0);
            x = 0;
            for (int i = 0; i < 3; i++) {
                x = (25173 * x + 13849) % 65536;
            }
            g.day();
            Book.due("one for each", g.count(5), x);
            orderOfDrawing();
        });
        Book.terms("a FALL if X modulo 1000 is below f (asked of the CELL as it is then);", () -> {
            int[] drawn = {0, 1, 499, 500, 501, 998, 999};
            for (int d : drawn) {
                for (int f : new int[] {0, 1, 500, 999, 1000}) {
                    CliffGarden g = Gardens.column(0, 1, 9999);
                    g.plant(0, 0, 0, 1);
                    Gardens.lay(g, "f" + f + "(1=1)");
                    g.seed(LawSentences.seedBefore(d));
                    Book.due(d + " drawn, f " + f, g.day(), d < f ? 1 : 0);
                }
            }
            CliffGarden g = Gardens.column(0, 3, 9999);
            Gardens.lay(g, "gw(1=1);f1000(y=5&w=5&d=0);c1(l=2)");
            g.kind(0, 5, 50, 1);
            g.plant(0, 0, 0, 0);
            g.valve(0, 9);
            Book.due("as it is behind water and growth", g.day(), 1);
            Book.due("caught on that day", g.cell(0, 2, 7), 5);
        });
    }

    /** Each X decides over one CROP: which one falls tells the order. */
    private static void orderOfDrawing() {
        int[][] cells = {{1, 0}, {1, 2}, {3, 0}, {5, 1}};
        long x = 1;
        for (int i = 0; i < cells.length; i++) {
            x = (25173 * x + 13849) % 65536;
            for (int more = 0; more <= 1; more++) {
                CliffGarden g = Gardens.column(1, 3, 9999);
                Gardens.hangColumn(g, 3, 1, 9999);
                Gardens.hangColumn(g, 5, 2, 9999);
                for (int[] c : cells) {
                    g.plant(c[0], c[1], 0, 1);
                }
                String which = "(x=" + cells[i][0] + "&l=" + cells[i][1] + ")";
                Gardens.lay(g, "f" + (x % 1000 + more) + which);
                Book.due("drawn at place " + i, g.day(), more);
                Book.due("its own x", g.cell(cells[i][0], cells[i][1], 5), more == 1 ? -1 : 0);
            }
        }
    }

    private static void ageing() {
        Book.terms("then each KNOT of CELLS that HANG is less by a (all as ahead of it; not below 0);"
                + " then KNOTS GO;", () -> {
            int[][] knotAndAge = {{10, 3}, {10, 10}, {10, 11}, {0, 5}, {9999, 999}, {998, 999}};
            for (int[] k : knotAndAge) {
                CliffGarden g = Gardens.column(3, 2, k[0]);
                Gardens.lay(g, "a" + k[1] + "(1=1)");
                g.day();
                Book.due("aged", g.cell(3, 0, 1), Math.max(0, k[0] - k[1]));
                Book.due("aged", g.cell(3, 1, 1), Math.max(0, k[0] - k[1]));
                Book.due("it bears nothing", g.count(0), 2);
            }
            everyKnotAges();
            CliffGarden g = Gardens.column(3, 1, 107);
            Gardens.lay(g, "an/10+y(1=1)");
            g.plant(3, 0, 0, 5);
            g.day();
            Book.due("by the knot as it was, and the crop", g.cell(3, 0, 1), 92);
            g = Gardens.column(3, 1, 70);
            Gardens.hangColumn(g, 2, 1, 70);
            g.plant(3, 0, 0, 61);
            Gardens.lay(g, "a10(x=3);an/10(x=2)");
            Book.due("aged, then it goes", g.day(), 1);
            Book.due("the other one aged ahead of that", g.cell(2, 0, 1), 57);
            g = Gardens.column(3, 1, 70);
            g.plant(3, 0, 0, 60);
            Gardens.lay(g, "a10(1=1)");
            Book.due("60 bears 60", g.day(), 0);
            Book.due("59 does not", g.day() + 10 * g.cell(3, 0, 0), 1);
        });
        Book.terms("THE DAY is one more. (KEPT stays till the next WATER.)", () -> {
            CliffGarden g = Gardens.column(3, 1, 9999);
            g.plant(3, 0, 0, 5);
            g.valve(3, 5);
            g.day();
            Book.due("the day", g.count(1), 1);
            Book.due("kept stays", g.cell(3, 0, 8), 1);
            g.valve(3, 0);
            Book.due("kept stays", g.cell(3, 0, 8), 1);
            g.fall(3, 0);
            Book.due("kept stays without the crop", g.cell(3, 0, 8), 1);
            Book.due("it counts as load", g.cell(3, 0, 10), 1);
            Book.due("fell on day 1", g.fallIs(0, 6), 1);
            g.day();
            Book.due("till the next water", g.cell(3, 0, 8), 0);
            Book.due("the day", g.count(1), 2);
            Gardens.lay(g, "f1000(d=2);a1(d=2)");
            g.plant(3, 0, 0, 5);
            Book.due("by the law of day 2", g.day(), 1);
            Book.due("fell on day 2", g.fallIs(1, 6), 2);
            Book.due("aged on day 2", g.cell(3, 0, 1), 9998);
            g.day();
            Book.due("not on day 3", g.cell(3, 0, 1), 9998);
        });
    }

    private static void everyKnotAges() {
        CliffGarden g = new CliffGarden();
        for (int c = 0; c < 8; c++) {
            Gardens.hangColumn(g, c, 6, 100);
        }
        Gardens.lay(g, "a6*x+l+1(1=1)");
        g.day();
        for (int n = 0; n < 48; n++) {
            Book.due("knot " + n, g.cell(n / 6, n % 6, 1), 99 - n);
        }
    }

    private static void promisesOfWaterAndFall() {
        Book.promise(14, "WATER alone: drops that came into KITCHENS.", () -> {
            CliffGarden g = new CliffGarden();
            Book.due("no drops", g.water(), 0);
            Gardens.lay(g, "g9(1=1);f1000(1=1);a9(1=1)");
            Gardens.hangColumn(g, 0, 1, 5);
            g.plant(0, 0, 0, 9);
            g.valve(0, 3);
            g.valve(7, 99);
            Book.due("that came", g.water(), 101);
            Book.due("that came now, not in all", g.water(), 101);
            Book.due("nothing grows", g.cell(0, 0, 6), 9);
            Book.due("nothing ages or goes", g.cell(0, 0, 1), 5);
            Book.due("no day", g.count(1), 0);
            Book.due("nothing is drawn", g.count(5), 1);
            Book.due("in all", g.kitchenIs(7, 2), 198);
        });
        Book.promise(15, "A CROP falls: where it lies (its LEVEL; 6 in the KITCHEN);", () -> {
            for (int lies = 1; lies <= 6; lies++) {
                CliffGarden g = Gardens.column(0, 6, 5);
                Gardens.lay(g, "c1(l=" + lies + ");f0(1=1)");
                g.plant(0, 0, 0, 9);
                Book.due("lies", g.fall(0, 0), lies);
                Book.due("x is not drawn", g.count(5), 1);
                Book.due("no knot goes by it", g.count(0), 6);
            }
        });
        Book.promise(15, "NONE: no such CELL,", () -> {
            for (int[] no : Gardens.NO_CELLS) {
                Gardens.refused("fall", g -> g.fall(no[0], no[1]), -1);
            }
            Gardens.refused("does not hang", g -> g.fall(1, 0), -1);
        });
        Book.promise(15, "no CROP there.", () -> {
            Gardens.refused("no crop", g -> g.fall(2, 5), -1);
            Gardens.refused("no crop, though it caught one", g -> g.fall(2, 4), -1);
            Gardens.refused("no crop any more", g -> g.fall(2, 2), -1);
        });
    }

    private static void promisesOfGoAndDay() {
        Book.promise(16, "KNOTS GO: how many CELLS went.", () -> {
            Book.due("nothing hangs", new CliffGarden().go(), 0);
            Gardens.refused("all bear", g -> g.go(), 0);
            CliffGarden g = new CliffGarden();
            for (int c = 0; c < 8; c++) {
                Gardens.hangColumn(g, c, 6, 0);
                g.plant(c, 5, 0, 1);
            }
            Book.due("all", g.go(), 48);
            Book.due("none hangs", g.count(0), 0);
            Book.due("eight falls", g.count(2), 8);
            Book.due("no more", g.go(), 0);
            Book.due("no day", g.count(1), 0);
        });
        Book.promise(17, "A DAY: how many FALLS there were (of KNOTS that went, too).", () -> {
            Book.due("none", new CliffGarden().day(), 0);
            CliffGarden g = new CliffGarden();
            for (int c = 0; c < 8; c++) {
                Gardens.hangColumn(g, c, 6, c < 4 ? 9999 : 0);
                for (int l = 0; l < 6; l++) {
                    g.plant(c, l, 0, 1);
                }
            }
            Gardens.lay(g, "f1000(x<2)");
            Book.due("12 by f, 24 by knots", g.day(), 36);
            Book.due("written", g.count(2), 36);
            Gardens.lay(g, "f1000(1=1)");
            for (int i = 0; i < 30; i++) {
                g.fall(2, 0);
                g.plant(2, 0, 0, 1);
            }
            Book.due("60 are written", g.count(2), 60);
            Book.due("those that are not written count, too", g.day(), 12);
            Book.due("none left", g.day(), 0);
        });
    }

    private static void promisesOfTornAndFalls() {
        Book.promise(18, "TORN: CELLS that would go, as bits (six times COLUMN, and LEVEL);", () -> {
            CliffGarden g = new CliffGarden();
            for (int c = 0; c < 8; c++) {
                Gardens.hangColumn(g, c, 6, 9999);
            }
            for (int n = 0; n < 48; n++) {
                long column = 63L << n / 6 * 6;
                Book.due("cell " + n, g.torn(n / 6, n % 6), column & -1L << n);
            }
            Gardens.refused("nothing is done", x -> x.torn(2, 0), 63L << 12);
        });
        Book.promise(18, "-1: no such CELL,", () -> {
            for (int[] no : Gardens.NO_CELLS) {
                Gardens.refused("torn", g -> g.torn(no[0], no[1]), -1);
            }
        });
        Book.promise(18, "it does not HANG.", () -> {
            Gardens.refused("torn", g -> g.torn(3, 3), -1);
            Gardens.refused("torn", g -> g.torn(7, 0), -1);
        });
        Book.promise(19, "Of FALL i, what 0 the COLUMN, 1 the LEVEL, 2 the KIND, 3 the WEIGHT, 4 where it lies,"
                + " 5 whose it is (NONE: caught), 6 THE DAY;", () -> {
            CliffGarden g = Gardens.column(7, 6, 9999);
            Gardens.lay(g, "c1(y=1);o7(1=1)");
            g.day();
            g.plant(7, 5, 5, 200);
            g.fall(7, 5);
            g.day();
            g.plant(7, 4, 0, 1);
            g.fall(7, 4);
            int[][] facts = {{7, 5, 5, 200, 6, 7, 1}, {7, 4, 0, 1, 5, -1, 2}};
            for (int i = 0; i < 2; i++) {
                for (int what = 0; what <= 6; what++) {
                    Book.due("fall " + i + ", what " + what, g.fallIs(i, what), facts[i][what]);
                }
            }
        });
        Book.promise(19, "-1000 for others.", () -> {
            for (int what : new int[] {-1, 7, Gardens.MIN, Gardens.MAX}) {
                Gardens.refused("what " + what, g -> g.fallIs(0, what), -1000);
            }
            for (int i : new int[] {-1, 2, 59, 60, 61, Gardens.MIN, Gardens.MAX}) {
                for (int what = 0; what <= 6; what++) {
                    Book.due("fall " + i, Gardens.rich().fallIs(i, what), -1000);
                }
            }
        });
    }

    private static void refusedCalls() {
        Book.terms("A call that is refused (NONE, false) changes nothing but the tape, where it is told.", () -> {
            Gardens.refused("law", g -> g.law(21), -1);
            Gardens.refused("check", g -> g.check(8, 1), -2);
            CliffGarden g = Gardens.rich();
            Book.due("a fault", g.law(8), -1007);
            Book.due("empties the tape, as told", g.count(4), 0);
            Book.due("and changes no law", g.count(3), 6);
        });
    }
}

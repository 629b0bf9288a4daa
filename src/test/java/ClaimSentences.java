/** Sentences on whose a FALL is, on FOOD and on KITCHENS. */
final class ClaimSentences {
    private ClaimSentences() {
    }

    static void all() {
        claimed();
        putToRights();
        promiseOfClaimed();
        lettersOfClaims();
        promiseOfRight();
        food();
        kitchenIs();
    }

    /** One FALL of KIND 2, WEIGHT 50, from LEVEL 3 of COLUMN 3 into the KITCHEN, on DAY 0; it is PERSON 2's. */
    private static CliffGarden fallen(String law) {
        CliffGarden g = Gardens.column(3, 4, 9999);
        g.kind(2, 0, 40, 4);
        Gardens.lay(g, "o2(1=1)");
        g.plant(3, 3, 2, 50);
        g.fall(3, 3);
        Gardens.lay(g, law);
        return g;
    }

    private static void claimed() {
        Book.terms("==== 3. CLAIMED is a FALL by some PERSONS: the one of most points by q"
                + " (of like ones the lowest; all with 0: nobody).", () -> {
            CliffGarden g = fallen("q5(b=6|b=3);q9(b=4);q1(b=7);q0(1=1)");
            Book.due("of all", g.claimed(0, 255), 4);
            Book.due("of all but the best", g.claimed(0, 255 - 16), 3);
            Book.due("of like ones the lowest", g.claimed(0, 64 + 8), 3);
            Book.due("the other one alone", g.claimed(0, 64), 6);
            Book.due("one point", g.claimed(0, 128 + 7), 7);
            Book.due("all with 0", g.claimed(0, 1 + 2 + 4 + 32), -2);
            for (int p = 0; p < 8; p++) {
                Book.due("one person", g.claimed(0, 1 << p), p == 3 || p == 4 || p >= 6 ? p : -2);
            }
            Book.due("no law of q", fallen("g1(1=1)").claimed(0, 255), -2);
            Book.due("all alike", fallen("q3(1=1)").claimed(0, 255), 0);
            Book.due("all alike", fallen("q3(1=1)").claimed(0, 254), 1);
        });
    }

    private static void putToRights() {
        Book.terms("PUT TO RIGHTS: its FOOD goes over to that one, if it came into a KITCHEN.", () -> {
            CliffGarden g = fallen("qb(1=1)");
            Book.due("food", g.food(2), 200);
            Book.due("right", g.right(0, 255), 200);
            Book.due("from", g.food(2), 0);
            Book.due("to", g.food(7), 200);
            Book.due("whose it is", g.fallIs(0, 5), 7);
            Book.due("the fall is else as it was", g.fallIs(0, 3) + g.fallIs(0, 4), 56);
            Book.due("over to another", g.right(0, 3), 200);
            Book.due("to", g.food(1), 200);
            g.plant(3, 3, 2, 10);
            g.fall(3, 3);
            g.plant(3, 3, 2, 3);
            g.fall(3, 3);
            Book.due("food", g.food(0), 52);
            Book.due("its food alone", g.right(1, 64), 40);
            Book.due("from", g.food(0), 12);
            Book.due("to", g.food(6), 40);
            g = fallen("q1(1=1)");
            g.kind(2, 0, 40, 9);
            Book.due("the food that it brought", g.right(0, 1), 200);
            g = fallen("q1(b=6)");
            g.plant(3, 3, 2, 0);
            g.fall(3, 3);
            Book.due("no food goes over, but it is his", g.right(1, 255), 0);
            Book.due("his", g.fallIs(1, 5), 6);
            Gardens.lay(g, "c1(l=3);q1(b=6)");
            g.plant(3, 1, 2, 9);
            g.fall(3, 1);
            Book.due("it lies in a cell", g.right(2, 255), -1);
            Book.due("nobody's", g.fallIs(2, 5), -1);
        });
    }

    private static void promiseOfClaimed() {
        Book.promise(20, "CLAIMED by some PERSONS (bits, not empty): who;", () -> {
            CliffGarden g = fallen("qb+1(1=1)");
            for (int persons = 1; persons < 256; persons++) {
                Book.due("of " + persons, g.claimed(0, persons), 31 - Integer.numberOfLeadingZeros(persons));
            }
            Gardens.refused("caught, too", x -> x.claimed(0, 255), 7);
        });
        Book.promise(20, "-2: nobody;", () -> {
            Gardens.refused("nobody", g -> g.claimed(0, 7), -2);
            Gardens.refused("nobody", g -> g.claimed(1, 1), -2);
        });
        Book.promise(20, "NONE: no such ones.", () -> {
            for (int i : new int[] {-1, 2, 59, 60, Gardens.MIN, Gardens.MAX}) {
                Gardens.refused("fall " + i, g -> g.claimed(i, 255), -1);
            }
            for (int persons : new int[] {0, -1, 256, 257, 511, 1 << 30, Gardens.MIN, Gardens.MAX}) {
                Gardens.refused("persons " + persons, g -> g.claimed(1, persons), -1);
            }
        });
    }

    private static void lettersOfClaims() {
        Book.promise(20, "(Letters as THE LAW says, of the CELL as it is now, of what fell as it fell.)", () -> {
            CliffGarden g = Gardens.column(3, 4, 9999);
            g.kind(2, 7, 40, 4);
            g.plant(3, 3, 2, 50);
            g.pollinate(3, 2);
            g.fall(3, 3);
            g.kind(2, 9, 60, 1);
            g.kind(5, 9, 60, 1);
            g.plant(3, 3, 5, 11);
            g.knot(3, 3, 777);
            g.kitchen(3, 6, 0);
            g.valve(3, 99);
            g.day();
            String[] now = {"n=777", "w=9", "d=1", "t=6", "s=0", "j=3", "x=3", "l=3"};
            String[] then = {"k=2", "y=50", "r=1", "p=1", "m=3"};
            for (String is : now) {
                Gardens.lay(g, "q1(" + is + ")");
                Book.due("as it is now: " + is, g.claimed(0, 1), 0);
            }
            for (String is : then) {
                Gardens.lay(g, "q1(" + is + ")");
                Book.due("as it fell: " + is, g.claimed(0, 1), 0);
            }
            g.knot(3, 2, 0);
            g.go();
            g.hang(3, 2, 0, 9, 0, 0);
            g.hang(3, 3, 8, 888, 1, 0);
            for (String is : new String[] {"n=888", "s=8", "j=1", "w=0", "k=2", "y=50", "r=1", "p=1"}) {
                Gardens.lay(g, "q1(" + is + ")");
                Book.due("hung anew: " + is, g.claimed(0, 1), 0);
            }
            g = Gardens.column(3, 1, 9999);
            g.plant(3, 0, 2, 49);
            g.fall(3, 0);
            g.kind(2, 1, 49, 1);
            Gardens.lay(g, "q1(r=0&p=0)");
            Book.due("not ripe as it fell", g.claimed(0, 1), 0);
        });
    }

    private static void promiseOfRight() {
        Book.promise(21, "PUT TO RIGHTS: FOOD that went over;", () -> {
            CliffGarden g = fallen("q1(1=1)");
            Book.due("right", g.right(0, 1), 200);
            Book.due("right", g.right(0, 128), 200);
            Book.due("all in all as much", g.food(7), 200);
        });
        Book.promise(21, "NONE: no such ones,", () -> {
            for (int i : new int[] {-1, 2, 59, 60, Gardens.MIN, Gardens.MAX}) {
                Gardens.refused("fall " + i, g -> g.right(i, 255), -1);
            }
            for (int persons : new int[] {0, -1, 256, 257, 511, Gardens.MIN, Gardens.MAX}) {
                Gardens.refused("persons " + persons, g -> g.right(1, persons), -1);
            }
        });
        Book.promise(21, "it did not come into a KITCHEN,", () -> {
            Gardens.refused("caught", g -> g.right(0, 255), -1);
        });
        Book.promise(21, "nobody claims it rightly,", () -> {
            Gardens.refused("all with 0", g -> g.right(1, 7), -1);
        });
        Book.promise(21, "his it is.", () -> {
            Gardens.refused("his by o", g -> g.right(1, 8), -1);
            CliffGarden g = fallen("q1(1=1)");
            Book.due("over", g.right(0, 32), 200);
            Book.due("his by right", g.right(0, 32), -1);
            Book.due("as it was", g.food(5), 200);
        });
    }

    private static void food() {
        Book.promise(22, "FOOD of a PERSON;", () -> {
            CliffGarden g = Gardens.column(0, 1, 9999);
            for (int p = 0; p < 8; p++) {
                Book.due("at first", g.food(p), 0);
                Gardens.lay(g, "o" + p + "(1=1)");
                g.plant(0, 0, 0, 10 + p);
                g.fall(0, 0);
            }
            for (int p = 0; p < 8; p++) {
                Book.due("food", g.food(p), 10 + p);
            }
        });
        Book.promise(22, "NONE: no such one.", () -> {
            for (int no : Gardens.NO_PERSONS) {
                Gardens.refused("food of " + no, g -> g.food(no), -1);
            }
        });
    }

    private static void kitchenIs() {
        Book.promise(23, "Of a KITCHEN, what 0 its OWNER, 1 its ROOF, 2 drops that came, 3 HOLES;", () -> {
            for (int c = 0; c < 8; c++) {
                CliffGarden g = Gardens.column(c, 1, 9999);
                g.kitchen(c, 7 - c, 59);
                g.plant(c, 0, 0, 10);
                g.fall(c, 0);
                g.valve(c, 9);
                g.water();
                g.day();
                int[] due = {7 - c, 59, 18, 1};
                for (int what = 0; what <= 3; what++) {
                    Book.due("what " + what, g.kitchenIs(c, what), due[what]);
                }
                g.kitchen(c, 1, 58);
                Book.due("told anew, drops and holes stay", 10 * g.kitchenIs(c, 2) + g.kitchenIs(c, 3), 181);
            }
        });
        Book.promise(23, "NONE for others.", () -> {
            for (int what : new int[] {-1, 4, Gardens.MIN, Gardens.MAX}) {
                Gardens.refused("what " + what, g -> g.kitchenIs(2, what), -1);
            }
            for (int no : Gardens.NO_COLUMNS) {
                for (int what = 0; what <= 3; what++) {
                    Book.due("no column", Gardens.rich().kitchenIs(no, what), -1);
                }
            }
        });
    }
}

/** Promises 1 to 10: a new object, dishes, the house, diners; each sentence that names an edge. */
public final class HouseEdgesTest extends Edges {
    private void newObject() {
        sentence(1, "SWEET is at first what the number leaves by 10");
        due("ofDish(0, 0)", 0);
        due("ofDish(9, 0)", 9);
        due("ofDish(10, 0)", 0);
        due("ofDish(15, 0)", 5);
        sentence(1, "FAT is 3 at first");
        due("ofDish(0, 1)", 3);
        due("ofDish(15, 1)", 3);
        sentence(1, "a COURSE is at first the DISH of its own number");
        for (int course = 0; course < 6; course++) {
            due("menu(" + course + ", -1)", course);
        }
        due("ofDish(6, 2)", 0);
        sentence(1, "ROOM is 12, PIGS are 0, DAY is 0 at first");
        due("count(2)", 12);
        due("count(3)", 0);
        due("count(1)", 0);
        sentence(1, "no DINERS");
        due("count(0)", 0);
        due("count(4)", 0);
        due("count(5)", 0);
        due("ofDiner(0, 0)", BEYOND);
        sentence(1, "no TEXTS at first, and nothing on THE TAPE");
        due("law(0, 3, 9, 9)", 3);
        due("law(1, 7, 9, 9)", 7);
        due("count(7)", 0);
        due("text(0)", -10);
        sentence(1, "z is 1 at first, none wait, no BODIES stand in THE TRACE");
        due("count(10)", 1);
        due("count(8)", 0);
        due("check()", 0);
        due("count(9)", 0);
        due("trace(0)", NONE);
        sentence(1, "SHEETS are missing at first, and there is no IMAGE");
        each("judge(?)", NONE, 0, 1, 2, 3);
        due("restore()", NONE);
        due("image()", 1);
        sentence(1, "nothing is told at first");
        each("told(?)", 0, 1, 2, 3, 4, 5);
    }

    private void noDiners() {
        sentence(1, "a house without DINERS has no plates and nobody to think of");
        due("first(0)", NONE);
        due("first(1)", NONE);
        due("best(5, 20, 0)", 0);
        due("best(5, 20, 1)", 0);
        due("swap(20)", -1);
        due("pack(40)", 0);
        due("few(0)", 0);
        due("few(1)", NONE);
        due("broken(60)", 0);
        due("swill(60)", 0);
        each("then(0, 0, ?)", BEYOND, 0, 1);
        due("out(0, 0)", BEYOND);
        due("roomFor(0, 0, 0)", BEYOND);
        due("cheer(0, 24)", BEYOND);
        due("odds(0, 0, 0, 0)", BEYOND);
        due("voice(0, 0, 0)", BEYOND);
        due("days(60)", 0);
        due("loose(40)", 0);
        due("count(1)", 100);
        does("sheet(0, 8, 0)");
        due("judge(0)", -1);
        due("whose(0, 0, 0)", BEYOND);
        due("loved(0, 0)", BEYOND);
        sentence(1, "a new object has nothing of one that was made ahead of it");
        does("dish(0, 0, 9)", "menu(0, 9)", "house(0, 1)", "house(1, 1)", "diner(0, 9)", "seed(5)", "tell(1)");
        does("sheet(0, 8, 1)", "image()", "days(1)", "feed(108, 1)");
        due("told(0)", BEYOND);
        sentence(1, "all as at first, behind another object's calls");
        int[] counts = {0, 0, 12, 0, 0, 0, 60, 0, 0, 0, 1};
        for (int what = 0; what < counts.length; what++) {
            due("count(" + what + ")", counts[what]);
        }
        due("menu(0, -1)", 0);
        due("told(1)", 0);
        due("judge(0)", NONE);
        due("restore()", NONE);
    }

    private void dishes() {
        sentence(2, "DISHES are 0 .. 15");
        edges("dish(?, 0, 0)", 0, 15);
        sentence(2, "what is 0 or 1");
        edges("dish(0, ?, 0)", 0, 1);
        sentence(2, "SWEET is 0 to 9");
        edges("dish(3, 0, ?)", 0, 9);
        due("ofDish(3, 0)", 9);
        sentence(2, "FAT is 0 to 9");
        edges("dish(3, 1, ?)", 0, 9);
        due("ofDish(3, 1)", 9);
        sentence(2, "what it was");
        due("dish(15, 0, 9)", 5);
        due("dish(15, 0, 0)", 9);
        due("dish(15, 0, 0)", 0);
        due("dish(15, 1, 9)", 3);
        due("dish(15, 1, 0)", 9);
        sentence(2, "SWEET or FAT of that DISH alone");
        does("dish(7, 0, 1)");
        due("ofDish(7, 1)", 3);
        due("ofDish(6, 0)", 6);
        due("ofDish(8, 0)", 8);
        does("dish(7, 1, 9)");
        due("ofDish(7, 0)", 1);
        due("ofDish(6, 1)", 3);
        due("ofDish(8, 1)", 3);
        sentence(2, "a refused one changes nothing");
        due("dish(2, 0, 10)", BEYOND);
        due("dish(2, 1, -1)", BEYOND);
        due("ofDish(2, 0)", 2);
        due("ofDish(2, 1)", 3);
        due("told(1)", 2);
        sentence(3, "DISHES are 0 .. 15");
        edges("ofDish(?, 0)", 0, 15);
        edges("ofDish(?, 2)", 0, 15);
        sentence(3, "what is 0, 1 or 2");
        edges("ofDish(0, ?)", 0, 2);
        sentence(3, "COURSES that it is, as a set: none, one, all");
        due("ofDish(6, 2)", 0);
        due("ofDish(0, 2)", 1);
        due("ofDish(5, 2)", 32);
        for (int course = 0; course < 6; course++) {
            does("menu(" + course + ", 15)");
        }
        due("ofDish(15, 2)", 63);
        due("ofDish(5, 2)", 0);
    }

    private void menuAndHouse() {
        sentence(4, "COURSES are 0 .. 5");
        edges("menu(?, -1)", 0, 5);
        sentence(4, "a DISH 0 .. 15, or -1");
        edges("menu(0, ?)", -1, 15);
        due("menu(0, -1)", 15);
        sentence(4, "what it was; by -1 it stays");
        due("menu(5, 0)", 5);
        due("menu(5, -1)", 0);
        due("menu(5, -1)", 0);
        due("menu(5, 15)", 0);
        due("menu(4, -1)", 4);
        sentence(4, "a refused one changes nothing");
        due("menu(1, 16)", BEYOND);
        due("menu(1, -2)", BEYOND);
        due("menu(1, -1)", 1);
        sentence(5, "what is 0 or 1");
        edges("house(?, 0)", 0, 1);
        sentence(5, "ROOM is 0 to 40");
        edges("house(0, ?)", 0, 40);
        due("count(2)", 40);
        sentence(5, "PIGS are 0 to 99999");
        edges("house(1, ?)", 0, 99999);
        due("count(3)", 99999);
        sentence(5, "what they were");
        due("house(0, 40)", 12);
        due("house(0, 0)", 40);
        due("house(1, 99999)", 0);
        due("house(1, 41)", 99999);
        due("count(2)", 0);
        due("count(3)", 41);
        sentence(5, "a refused one changes nothing");
        due("house(0, 41)", BEYOND);
        due("house(1, 100000)", BEYOND);
        due("house(2, 1)", BEYOND);
        due("count(2)", 12);
        due("count(3)", 0);
    }

    private void seats() {
        sentence(6, "km is 10 times the KIND (0 .. 6), and m (0 to 9)");
        edges("diner(?, 0)", 0, 69);
        due("diner(9, 0)", 2);
        due("diner(10, 0)", 3);
        int[][] kindAndM = {{0, 0}, {6, 9}, {0, 9}, {1, 0}};
        for (int d = 0; d < kindAndM.length; d++) {
            due("ofDiner(" + d + ", 0)", kindAndM[d][0]);
            due("ofDiner(" + d + ", 1)", kindAndM[d][1]);
        }
        sentence(6, "GRIEF is 0 to 9");
        edges("diner(0, ?)", 0, 9);
        due("ofDiner(0, 2)", 0);
        due("ofDiner(1, 2)", 9);
        sentence(6, "LOVES is its own number at first, KNOWN 0; at most 8");
        for (int d = 0; d < 8; d++) {
            due("diner(0, 1)", d);
            due("ofDiner(" + d + ", 3)", d);
            due("ofDiner(" + d + ", 4)", 0);
        }
        due("diner(0, 1)", FULL);
        due("count(0)", 8);
        due("count(4)", 8);
        due("told(4)", 1);
        sentence(6, "BEYOND is asked ahead of FULL");
        diners(0, 0, 0, 0, 0, 0, 0, 0, 0, 0, 0, 0, 0, 0, 0, 0);
        due("diner(70, 0)", BEYOND);
        due("diner(0, 10)", BEYOND);
        due("diner(-1, -1)", BEYOND);
        due("diner(69, 9)", FULL);
        sentence(6, "a refused one takes no number");
        due("diner(70, 0)", BEYOND);
        due("diner(0, 10)", BEYOND);
        due("count(0)", 0);
        due("diner(0, 0)", 0);
    }

    private void askingDiners() {
        sentence(7, "a DINER that there is");
        due("ofDiner(0, 0)", BEYOND);
        diners(0, 0);
        edges("ofDiner(?, 0)", 0, 0);
        diners(0, 0, 0, 0, 0, 0, 0, 0, 0, 0, 0, 0, 0, 0);
        edges("ofDiner(?, 11)", 0, 7);
        sentence(7, "what is 0 to 11");
        diners(0, 0);
        edges("ofDiner(0, ?)", 0, 11);
        sentence(7, "6 to 11 are COURSES 0 to 5");
        diners(0, 0);
        text(0, "s+1");
        does("menu(0, 3)", "menu(1, 2)", "menu(2, 1)", "menu(3, 0)", "menu(4, 1)", "menu(5, 2)");
        int[] left = {4, 3, 2, 1, 2, 3};
        for (int course = 0; course < 6; course++) {
            due("ofDiner(0, " + (6 + course) + ")", left[course]);
        }
    }

    /** What is LEFT of COURSE 0, a DISH of this SWEET and FAT, by DINER 0 if it is so. */
    private void left(int km, int grief, int sweet, int fat, int want) {
        does("become(0, " + km + ")", "change(0, 0, " + grief + ")");
        does("dish(0, 0, " + sweet + ")", "dish(0, 1, " + fat + ")");
        due("ofDiner(0, 6)", want);
    }

    private void leavings() {
        sentence(7, "DINER: a third (cut) of g, and 1, if f is above 5");
        diners(0, 0);
        int[] thirds = {0, 0, 0, 1, 1, 1, 2, 2, 2, 3};
        for (int g = 0; g <= 9; g++) {
            left(9, g, 9, 5, thirds[g]);
            left(9, g, 0, 6, thirds[g] + 1);
        }
        left(0, 0, 0, 9, 1);
        left(0, 0, 0, 0, 0);
        sentence(7, "COLONEL: half (cut) of g");
        diners(0, 0);
        for (int g = 0; g <= 9; g++) {
            left(19, g, 9, 9, g / 2);
            left(10, g, 0, 0, g / 2);
        }
        sentence(7, "LADY: as DINER, and 1, if s is above 5");
        diners(0, 0);
        left(29, 2, 5, 5, 0);
        left(29, 2, 6, 5, 1);
        left(29, 2, 5, 6, 1);
        left(29, 2, 6, 6, 2);
        left(29, 3, 9, 0, 2);
        sentence(7, "SUBALTERN: as DINER, but 4, if s and g together are above 9");
        diners(0, 0);
        left(39, 0, 9, 5, 0);
        left(39, 0, 9, 6, 1);
        left(39, 1, 9, 5, 4);
        left(39, 4, 5, 5, 1);
        left(39, 4, 5, 6, 2);
        left(39, 4, 6, 5, 4);
        left(39, 9, 0, 5, 3);
        left(39, 9, 1, 5, 4);
        text(0, "l-1");
        left(39, 9, 9, 9, 3);
        sentence(7, "GENERAL: as COLONEL, less 1 (not held)");
        diners(0, 0);
        text(0, "l+1");
        for (int g = 0; g <= 9; g++) {
            left(49, g, 9, 9, g / 2);
        }
    }

    private void leavingsOfOthers() {
        sentence(7, "CADET: as SUBALTERN, and a third (cut) of m");
        diners(0, 0);
        int[] thirds = {0, 0, 0, 1, 1, 1, 2, 2, 2, 3};
        for (int m = 0; m <= 9; m++) {
            left(60 + m, 0, 0, 5, thirds[m]);
        }
        left(69, 0, 9, 6, 4);
        text(0, "l-3");
        left(69, 0, 9, 6, 1);
        left(69, 1, 9, 0, 4);
        left(66, 1, 9, 0, 3);
        left(62, 1, 9, 0, 1);
        sentence(7, "DUCHESS: as LADY in even DAYS");
        diners(0, 0);
        left(59, 0, 5, 5, 0);
        left(59, 0, 6, 6, 2);
        left(59, 8, 6, 5, 3);
        sentence(7, "DUCHESS: 4 in odd DAYS, if m is above g, else as LADY");
        diners(0, 0);
        does("days(1)");
        left(50, 0, 5, 5, 0);
        left(51, 0, 5, 5, 4);
        left(54, 4, 5, 5, 1);
        left(54, 4, 6, 6, 3);
        left(54, 3, 5, 5, 4);
        left(59, 8, 5, 5, 4);
        left(59, 9, 5, 5, 3);
        text(0, "l-1");
        left(59, 8, 9, 9, 3);
        does("days(1)");
        text(0, "l");
        left(59, 8, 5, 5, 2);
        sentence(7, "no other KIND looks at whether a DAY is odd");
        diners(0, 0);
        does("days(1)");
        left(9, 4, 5, 5, 1);
        left(19, 4, 5, 5, 2);
        left(29, 4, 5, 5, 1);
        left(39, 4, 5, 5, 1);
        left(49, 4, 5, 5, 1);
        left(69, 4, 5, 5, 4);
        sentence(7, "LEFT is held within 0 to 4, without a TEXT too");
        diners(0, 0);
        left(40, 0, 0, 0, 0);
        left(20, 9, 6, 6, 4);
        left(69, 9, 9, 9, 4);
        text(0, "0-1");
        left(69, 9, 9, 9, 0);
        text(0, "5");
        left(0, 0, 0, 0, 4);
    }

    private void leftByText() {
        sentence(7, "LEFT by the TEXT, for each SWEET and each GRIEF");
        diners(0, 0);
        text(0, "(l*7+s*3+g)%5");
        for (int shift = 0; shift <= 4; shift += 4) {
            for (int course = 0; course < 6; course++) {
                does("menu(" + course + ", " + (course + shift) + ")");
            }
            for (int g = 0; g <= 9; g++) {
                does("change(0, 0, " + g + ")");
                for (int course = 0; course < 6; course++) {
                    int s = course + shift;
                    due("ofDiner(0, " + (6 + course) + ")", (g / 3 * 7 + s * 3 + g) % 5);
                }
            }
        }
    }

    private void mends(int km, int even, int odd) {
        sentence(7, "MENDS of km " + km + " in even and odd DAYS");
        diners(km, 5);
        due("ofDiner(0, 5)", even);
        does("days(1)");
        due("ofDiner(0, 5)", odd);
        does("days(1)", "change(0, 0, 0)");
        due("ofDiner(0, 5)", even);
    }

    private void mendings() {
        mends(0, 1, 1);
        mends(9, 1, 1);
        mends(10, 0, 1);
        mends(19, 0, 1);
        mends(20, 1, 1);
        mends(30, 0, 0);
        mends(39, 0, 0);
        mends(40, 0, 1);
        mends(49, 0, 1);
        mends(50, 2, 2);
        mends(59, 2, 2);
        mends(60, 1, 1);
        mends(61, 0, 0);
        mends(68, 1, 1);
        mends(69, 0, 0);
    }

    private void changes() {
        sentence(8, "a DINER that there is");
        due("change(0, 0, 0)", BEYOND);
        diners(0, 0, 0, 0);
        edges("change(?, 0, 0)", 0, 1);
        sentence(8, "what is 0, 1 or 2");
        diners(0, 0);
        edges("change(0, ?, 0)", 0, 2);
        sentence(8, "GRIEF is 0 to 9");
        diners(0, 5);
        edges("change(0, 0, ?)", 0, 9);
        due("ofDiner(0, 2)", 9);
        sentence(8, "LOVES is 0 to 7, whether there is such a DINER or not");
        diners(0, 5);
        edges("change(0, 1, ?)", 0, 7);
        due("ofDiner(0, 3)", 7);
        sentence(8, "KNOWN is 0 to 99");
        diners(0, 5);
        edges("change(0, 2, ?)", 0, 99);
        due("ofDiner(0, 4)", 99);
        sentence(8, "what it was");
        diners(0, 5, 0, 6);
        due("change(1, 0, 9)", 6);
        due("change(1, 0, 0)", 9);
        due("change(1, 1, 7)", 1);
        due("change(1, 1, 0)", 7);
        due("change(1, 2, 99)", 0);
        due("change(1, 2, 8)", 99);
        due("ofDiner(0, 2)", 5);
        due("ofDiner(0, 3)", 0);
        due("ofDiner(0, 4)", 0);
        sentence(8, "a refused one changes nothing");
        diners(0, 5);
        due("change(0, 0, 10)", BEYOND);
        due("change(0, 1, 8)", BEYOND);
        due("change(0, 2, 100)", BEYOND);
        due("ofDiner(0, 2)", 5);
        due("ofDiner(0, 3)", 0);
        due("ofDiner(0, 4)", 0);
    }

    private void becomings() {
        sentence(9, "a DINER that there is");
        due("become(0, 0)", BEYOND);
        diners(0, 0, 0, 0);
        edges("become(?, 0)", 0, 1);
        sentence(9, "km is 0 to 69");
        diners(0, 0);
        edges("become(0, ?)", 0, 69);
        sentence(9, "the KIND that it was; GRIEF, LOVES and KNOWN stay");
        diners(14, 5);
        does("change(0, 1, 3)", "change(0, 2, 77)");
        due("become(0, 69)", 1);
        due("become(0, 9)", 6);
        due("become(0, 10)", 0);
        due("become(0, 10)", 1);
        int[] is = {1, 0, 5, 3, 77};
        for (int what = 0; what < is.length; what++) {
            due("ofDiner(0, " + what + ")", is[what]);
        }
        sentence(9, "a refused one changes nothing");
        diners(14, 5);
        due("become(0, 70)", BEYOND);
        due("become(0, -1)", BEYOND);
        due("ofDiner(0, 0)", 1);
        due("ofDiner(0, 1)", 4);
        sentence(10, "a DINER that there is");
        due("as(0, 0)", BEYOND);
        diners(5, 0, 5, 0);
        edges("as(?, 0)", 0, 1);
        sentence(10, "KINDS are 0 to 6");
        diners(65, 0);
        due("as(0, 6)", 5);
        due("as(0, 0)", 5);
        each("as(0, ?)", BEYOND, -1, 7, MIN, MAX);
        sentence(10, "m, if it is of that KIND or of one under it, else KIND");
        diners(0, 0);
        int[] above = {0, 0, 0, 0, 1, 2, 3};
        for (int kind = 0; kind <= 6; kind++) {
            does("become(0, " + (10 * kind + 9 - kind) + ")");
            for (int asked = 0; asked <= 6; asked++) {
                boolean fits = asked == 0 || asked == kind || asked == above[kind];
                due("as(0, " + asked + ")", fits ? 9 - kind : KIND);
            }
        }
        due("told(5)", 7 * 7 - 1 - 3 * 2 - 3 * 3);
    }

    public static void main(String[] args) {
        HouseEdgesTest t = new HouseEdgesTest();
        t.newObject();
        t.noDiners();
        t.dishes();
        t.menuAndHouse();
        t.seats();
        t.askingDiners();
        t.leavings();
        t.leavingsOfOthers();
        t.leftByText();
        t.mendings();
        t.changes();
        t.becomings();
        t.end(1, 10);
    }
}

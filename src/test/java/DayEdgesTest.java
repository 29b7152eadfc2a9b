/**
 * Promises 14 and 15: DAYS, and DAYS by draws; each sentence that names an edge. A SUBALTERN of GRIEF 3 leaves 1
 * quarter of each of the six COURSES as they are at first, and never mends: it is in most of these houses.
 */
public final class DayEdgesTest extends Edges {
    private void numbersOfDays() {
        sentence(14, "n is 1 to 60");
        edges("days(?)", 1, 60);
        due("count(1)", 61);
        sentence(14, "DAY is 9999 at most: STATE above it");
        daysTo(9939);
        due("days(60)", 0);
        due("count(1)", 9999);
        each("days(?)", STATE, 1, 60);
        due("count(1)", 9999);
        due("told(3)", 2);
        sentence(14, "STATE, if DAY would be above 9999");
        daysTo(9940);
        due("days(60)", STATE);
        due("count(1)", 9940);
        due("days(59)", 0);
        due("count(1)", 9999);
        sentence(14, "BEYOND is asked ahead of STATE");
        daysTo(9999);
        each("days(?)", BEYOND, 0, 61, MIN, MAX);
        sentence(14, "a refused one changes nothing");
        diners(30, 3);
        does("house(0, 0)");
        daysTo(9998);
        int pigs = call("count(3)");
        due("days(2)", STATE);
        due("days(0)", BEYOND);
        due("count(1)", 9998);
        due("count(3)", pigs);
        due("days(1)", pigs + 6);
    }

    private void eating() {
        sentence(14, "as she has ROOM yet: none");
        diners(30, 3);
        does("house(0, 0)");
        due("days(1)", 6);
        due("ofDiner(0, 4)", 0);
        sentence(14, "as she has ROOM yet: one less than there is");
        diners(30, 3);
        does("house(0, 5)");
        due("days(1)", 1);
        due("ofDiner(0, 4)", 5);
        sentence(14, "as much as there is: ROOM for just that, and for more");
        diners(30, 3);
        does("house(0, 6)");
        due("days(1)", 0);
        due("ofDiner(0, 4)", 6);
        does("house(0, 40)");
        due("days(1)", 0);
        due("ofDiner(0, 4)", 12);
        sentence(14, "ROOM is for each DAY anew, and stays");
        diners(30, 3);
        does("house(0, 5)");
        due("days(3)", 3);
        due("ofDiner(0, 4)", 15);
        due("count(2)", 5);
        sentence(14, "a plate that is eaten in part");
        diners(0, 9);
        does("house(0, 4)");
        text(1, "e*e");
        due("days(1)", 14);
        due("ofDiner(0, 4)", 10);
        sentence(14, "PIGS then are behind all n DAYS, with those ahead");
        diners(30, 3);
        does("house(0, 0)", "house(1, 10)");
        due("days(1)", 16);
        due("days(60)", 376);
        sentence(14, "COURSES by numbers, in each DINERS by numbers");
        diners(30, 3, 30, 3, 30, 3);
        does("house(0, 4)");
        due("days(1)", 14);
        due("ofDiner(0, 4)", 2);
        due("ofDiner(1, 4)", 1);
        due("ofDiner(2, 4)", 1);
        sentence(14, "eight DINERS who leave all: 40 of 192 quarters");
        diners(10, 9, 10, 9, 10, 9, 10, 9, 10, 9, 10, 9, 10, 9, 10, 9);
        does("house(0, 40)");
        due("days(1)", 152);
        due("ofDiner(1, 4)", 8);
        due("ofDiner(2, 4)", 4);
    }

    private void knowing() {
        sentence(14, "only if she eats anything of it is KNOWN more");
        diners(0, 0, 30, 3);
        text(1, "9");
        does("house(0, 1)");
        due("days(1)", 5);
        due("ofDiner(0, 4)", 0);
        due("ofDiner(1, 4)", 9);
        does("house(0, 0)", "days(1)");
        due("ofDiner(1, 4)", 9);
        sentence(14, "KNOWN is held at 99");
        diners(30, 3);
        does("change(0, 2, 98)", "house(0, 1)", "days(1)");
        due("ofDiner(0, 4)", 99);
        does("days(1)");
        due("ofDiner(0, 4)", 99);
        does("change(0, 2, 91)", "days(1)");
        due("ofDiner(0, 4)", 92);
        text(1, "9");
        does("days(1)");
        due("ofDiner(0, 4)", 99);
        sentence(14, "TASTE is never below 0");
        diners(30, 3);
        does("change(0, 2, 50)");
        text(1, "0-5");
        does("days(1)");
        due("ofDiner(0, 4)", 50);
        sentence(14, "TASTE by SWEET of that DISH and GRIEF of that DINER");
        diners(30, 3, 30, 2);
        does("house(0, 2)", "dish(0, 0, 5)");
        text(0, "1");
        text(1, "s*1+g*0");
        does("days(1)");
        due("ofDiner(0, 4)", 5);
        due("ofDiner(1, 4)", 5);
        text(1, "g");
        does("days(1)");
        due("ofDiner(0, 4)", 8);
        due("ofDiner(1, 4)", 7);
        sentence(14, "PIGS are held at 99999");
        diners(30, 3);
        does("house(0, 5)", "house(1, 99997)");
        due("days(1)", 99998);
        due("days(1)", 99999);
        due("days(1)", 99999);
        does("house(0, 0)", "house(1, 99994)");
        due("days(1)", 99999);
        does("house(1, 99993)");
        due("days(1)", 99999);
        does("house(1, 99992)");
        due("days(1)", 99998);
    }

    private void tasting() {
        sentence(14, "TASTE by the TEXT, for each SWEET and each GRIEF, of 1 to 4 quarters");
        diners(0, 0);
        does("house(0, 40)");
        text(1, "(e*7+s*3+g)%10");
        for (int e = 1; e <= 4; e++) {
            text(0, Integer.toString(e));
            for (int g = 0; g <= 9; g++) {
                does("change(0, 0, " + g + ")", "change(0, 2, 0)", "menu(0, " + g + ")", "days(1)");
                int known = (e * 7 + g * 3 + g) % 10;
                for (int s = 1; s <= 5; s++) {
                    known += (e * 7 + s * 3 + g) % 10;
                }
                due("ofDiner(0, 4)", known);
            }
        }
    }

    private void grieving() {
        sentence(14, "if the one that it LOVES LEFT 4 quarters: 3 are not enough");
        diners(0, 5, 0, 9);
        does("change(0, 1, 1)", "days(1)");
        due("ofDiner(0, 2)", 4);
        sentence(14, "4 quarters are enough");
        diners(0, 5, 0, 9);
        does("change(0, 1, 1)", "dish(5, 1, 6)", "days(1)");
        due("ofDiner(0, 2)", 6);
        due("ofDiner(1, 2)", 8);
        sentence(14, "of COURSE 5, not of COURSE 4 or 0");
        diners(0, 5, 0, 9);
        does("change(0, 1, 1)", "dish(4, 1, 6)", "dish(0, 1, 6)", "days(1)");
        due("ofDiner(0, 2)", 4);
        sentence(14, "LEFT, as the TEXT gives it and holds it");
        diners(0, 5, 0, 0);
        does("change(0, 1, 1)");
        text(0, "5");
        does("days(1)");
        due("ofDiner(0, 2)", 6);
        text(0, "3");
        does("days(1)");
        due("ofDiner(0, 2)", 5);
        sentence(14, "however much she eats of it");
        diners(10, 9, 0, 3);
        does("change(1, 1, 0)", "house(0, 0)", "days(1)");
        due("ofDiner(1, 2)", 4);
        does("house(0, 40)", "change(0, 0, 9)", "days(1)");
        due("ofDiner(1, 2)", 5);
        sentence(14, "LOVES that DINER, if there is one: one that lacks");
        diners(0, 5, 10, 9);
        does("change(0, 1, 2)", "days(1)");
        due("ofDiner(0, 2)", 4);
        does("change(0, 1, 7)", "days(1)");
        due("ofDiner(0, 2)", 3);
        diners(10, 9);
        does("change(0, 1, 2)", "days(1)");
        due("ofDiner(0, 2)", 4);
        sentence(14, "and it isn't itself");
        diners(10, 9, 60, 9);
        does("change(0, 1, 0)", "days(2)");
        due("ofDiner(0, 2)", 8);
        due("ofDiner(1, 2)", 7);
        sentence(14, "LEFT on this DAY, ahead of what GRIEF becomes");
        diners(0, 9, 0, 5, 0, 9);
        does("dish(5, 1, 6)", "change(1, 1, 0)", "change(0, 1, 2)", "change(2, 1, 1)", "days(1)");
        due("ofDiner(0, 2)", 9);
        due("ofDiner(1, 2)", 6);
        due("ofDiner(2, 2)", 8);
        sentence(14, "each on its own DAY: LEFT 4 on the first, 3 on the next");
        diners(0, 9, 0, 5);
        does("dish(5, 1, 6)", "change(1, 1, 0)", "days(2)");
        due("ofDiner(1, 2)", 5);
        sentence(14, "GRIEF is held at 9");
        diners(30, 8, 10, 9, 30, 9);
        does("change(0, 1, 2)", "change(2, 1, 0)", "days(1)");
        due("ofDiner(0, 2)", 9);
        due("ofDiner(2, 2)", 9);
        does("days(60)");
        due("ofDiner(0, 2)", 9);
        due("ofDiner(2, 2)", 9);
    }

    private void mending() {
        sentence(14, "as much less as it MENDS, 0 at least");
        diners(0, 1, 50, 1, 50, 2, 50, 3, 0, 0, 50, 0, 30, 9, 61, 9);
        does("days(1)");
        int[] grief = {0, 0, 0, 1, 0, 0, 9, 9};
        for (int d = 0; d < grief.length; d++) {
            due("ofDiner(" + d + ", 2)", grief[d]);
        }
        sentence(14, "MENDS on the DAY that goes by: COLONEL and GENERAL on odd ones");
        diners(10, 9, 40, 9);
        does("days(1)");
        due("count(4)", 18);
        does("days(1)");
        due("count(4)", 16);
        does("days(1)");
        due("count(4)", 16);
        does("days(1)");
        due("count(4)", 14);
        sentence(14, "LEAVES on the DAY that goes by: DUCHESS 4 on odd ones");
        diners(51, 0);
        does("house(0, 0)");
        due("days(1)", 0);
        due("days(1)", 24);
        due("days(1)", 24);
        sentence(14, "DAY is 1 more");
        due("count(1)", 0);
        does("days(1)");
        due("count(1)", 1);
        does("days(60)");
        due("count(1)", 61);
        sentence(14, "n DAYS at once are as n DAYS one by one");
        diners(14, 9, 57, 1, 39, 8, 62, 5);
        does("change(0, 1, 2)", "change(1, 1, 3)", "change(2, 1, 0)", "change(3, 1, 1)", "image()", "days(7)");
        int pigs = call("count(3)");
        int grief7 = call("count(4)");
        int known = call("count(5)");
        does("restore()", "days(1)", "days(1)", "days(1)", "days(1)", "days(1)", "days(1)", "days(1)");
        due("count(3)", pigs);
        due("count(4)", grief7);
        due("count(5)", known);
    }

    private void looseNumbers() {
        sentence(15, "n is 1 to 40");
        edges("loose(?)", 1, 40);
        due("count(1)", 41);
        sentence(15, "DAY is 9999 at most: STATE above it");
        daysTo(9959);
        due("loose(40)", 0);
        due("count(1)", 9999);
        each("loose(?)", STATE, 1, 40);
        due("count(1)", 9999);
        sentence(15, "STATE, if DAY would be above 9999");
        daysTo(9960);
        due("loose(40)", STATE);
        due("count(1)", 9960);
        due("count(10)", 1);
        due("loose(39)", 0);
        sentence(15, "BEYOND is asked ahead of STATE");
        daysTo(9999);
        each("loose(?)", BEYOND, 0, 41, MIN, MAX);
        sentence(15, "a refused one draws nothing");
        each("loose(?)", BEYOND, 0, 41);
        due("count(10)", 1);
        due("menu(2, -1)", 2);
        due("count(1)", 0);
        sentence(15, "PIGS then");
        diners(0, 3);
        does("house(0, 0)", "house(1, 4)");
        due("loose(1)", 10);
    }

    /** One DAY by draws from z: which COURSE becomes which DISH, and z then, as another program worked it out. */
    private void drawn(int z, int course, int dish, int zThen) {
        sentence(15, "two draws for a DAY, from z " + z);
        does("seed(" + z + ")", "loose(1)");
        due("count(10)", zThen);
        for (int c = 0; c < 6; c++) {
            due("menu(" + c + ", -1)", c == course ? dish : c);
        }
    }

    private void draws() {
        drawn(1, 2, 0, -1770082073);
        drawn(0, 0, 6, -740551042);
        drawn(-1, 1, 12, 288979989);
        drawn(MIN, 2, 6, 1406932606);
        drawn(MAX, 5, 12, -1858503659);
        drawn(77, 3, 8, 1589938195);
        sentence(15, "40 DAYS: 80 draws, the MENU at the end");
        does("loose(40)");
        due("count(10)", -1286672079);
        int[] menu = {6, 1, 11, 0, 14, 12};
        for (int course = 0; course < 6; course++) {
            due("menu(" + course + ", -1)", menu[course]);
        }
        sentence(15, "the draws come ahead of that DAY's dinner");
        diners(0, 0);
        text(0, "s=7");
        does("house(0, 0)", "seed(12345)");
        due("loose(1)", 1);
        due("menu(0, -1)", 7);
    }

    public static void main(String[] args) {
        DayEdgesTest t = new DayEdgesTest();
        t.numbersOfDays();
        t.eating();
        t.knowing();
        t.tasting();
        t.grieving();
        t.mending();
        t.looseNumbers();
        t.draws();
        t.end(14, 15);
    }
}

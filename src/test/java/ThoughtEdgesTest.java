/**
 * Promises 16 to 29: what would be; each sentence that names an edge. A SUBALTERN of GRIEF 3 leaves 1 quarter of each
 * of the six COURSES as they are at first, and never mends, so KNOWN of it grows evenly: it is in most of these houses.
 */
public final class ThoughtEdgesTest extends Edges {
    private static final int[] EIGHT_COLONELS = {10, 9, 10, 9, 10, 9, 10, 9, 10, 9, 10, 9, 10, 9, 10, 9};

    private void evenHouse(int room) {
        diners(30, 3);
        does("house(0, " + room + ")");
    }

    private void serve(int... dishes) {
        for (int course = 0; course < dishes.length; course++) {
            does("menu(" + course + ", " + dishes[course] + ")");
        }
    }

    private void thens() {
        sentence(16, "n is 0 to 60");
        evenHouse(1);
        edges("then(?, 0, 1)", 0, 60);
        sentence(16, "a DINER that there is");
        due("then(0, 0, 0)", BEYOND);
        diners(0, 0, 0, 0);
        edges("then(0, ?, 0)", 0, 1);
        sentence(16, "what is 0 or 1");
        diners(0, 0);
        edges("then(0, 0, ?)", 0, 1);
        sentence(16, "behind 0, 1, 60 DAYS");
        evenHouse(1);
        does("change(0, 2, 5)");
        due("then(0, 0, 1)", 5);
        due("then(1, 0, 1)", 6);
        due("then(60, 0, 1)", 65);
        due("then(60, 0, 0)", 3);
        does("change(0, 2, 39)");
        due("then(60, 0, 1)", 99);
        due("then(59, 0, 1)", 98);
        does("change(0, 2, 40)");
        due("then(60, 0, 1)", 99);
        sentence(16, "it is only thought");
        evenHouse(1);
        does("then(60, 0, 1)");
        due("count(1)", 0);
        due("ofDiner(0, 4)", 0);
        due("count(3)", 0);
        sentence(16, "DAY beyond 9999, too: 10000 is even, 10001 odd");
        diners(10, 9);
        daysTo(9999);
        does("change(0, 0, 9)");
        due("then(0, 0, 0)", 9);
        due("then(1, 0, 0)", 8);
        due("then(2, 0, 0)", 8);
        due("then(3, 0, 0)", 7);
        due("then(60, 0, 0)", 0);
        due("count(1)", 9999);
    }

    private void outs() {
        sentence(17, "a DINER that there is");
        due("out(0, 0)", BEYOND);
        diners(0, 0, 0, 0);
        edges("out(?, 0)", 0, 1);
        sentence(17, "v is 0 to 99");
        evenHouse(12);
        edges("out(0, ?)", 0, 99);
        sentence(17, "KNOWN is v now: behind 0");
        evenHouse(1);
        due("out(0, 0)", 0);
        does("change(0, 2, 99)");
        due("out(0, 99)", 0);
        does("change(0, 2, 98)");
        due("out(0, 98)", 0);
        due("out(0, 99)", 1);
        sentence(17, "behind 60 at most, else NONE");
        evenHouse(1);
        due("out(0, 1)", 1);
        due("out(0, 60)", 60);
        due("out(0, 61)", NONE);
        due("told(2)", 1);
        sentence(17, "v or more first");
        evenHouse(12);
        due("out(0, 6)", 1);
        due("out(0, 7)", 2);
        due("out(0, 12)", 2);
        due("out(0, 13)", 3);
        due("out(0, 99)", 17);
        sentence(17, "DAY beyond 9999, too");
        evenHouse(1);
        daysTo(9999);
        does("change(0, 2, 0)");
        due("out(0, 60)", 60);
        due("out(0, 61)", NONE);
    }

    private void firsts() {
        sentence(18, "what is 0 or 1");
        diners(10, 9);
        edges("first(?)", 0, 1);
        sentence(18, "NONE: nobody by 60, for both; BEYOND ahead of it");
        evenHouse(12);
        each("first(?)", NONE, 0, 1);
        each("first(?)", BEYOND, -1, 2);
        sentence(18, "4 quarters of COURSE 5: 3 are not enough, nor 4 of another COURSE");
        diners(0, 9);
        does("dish(0, 1, 6)", "dish(4, 1, 6)");
        due("first(0)", NONE);
        does("dish(5, 1, 6)");
        due("first(0)", 0);
        due("first(1)", 0);
        sentence(18, "LEFT, as the TEXT gives it and holds it");
        diners(0, 0);
        text(0, "5");
        due("first(0)", 0);
        text(0, "3");
        due("first(0)", NONE);
        sentence(18, "on the DAY that comes then");
        diners(51, 0);
        due("first(0)", 1);
        does("days(1)");
        due("first(0)", 0);
        does("days(1)");
        due("first(0)", 1);
        sentence(18, "the latest that can be: a COLONEL needs 18 DAYS from GRIEF 9 to 0");
        diners(10, 9);
        text(0, "4*(g=0)");
        due("first(0)", 18);
        due("first(1)", 0);
        sentence(18, "who, on the first of these DAYS: the least");
        diners(0, 0, 51, 0, 51, 0);
        due("first(0)", 1);
        due("first(1)", 1);
        diners(10, 9, 10, 9);
        due("first(0)", 0);
        due("first(1)", 3);
        diners(0, 0, 0, 0, 10, 9);
        does("change(3, 0, 0)", "change(4, 0, 0)", "change(1, 0, 9)");
        due("first(1)", 7);
        sentence(18, "DAY beyond 9999, too");
        diners(51, 1);
        daysTo(9999);
        does("change(0, 0, 1)");
        due("first(0)", 2);
    }

    private void rooms() {
        sentence(19, "a DINER that there is");
        due("roomFor(0, 0, 0)", BEYOND);
        diners(0, 0, 0, 0);
        edges("roomFor(?, 0, 0)", 0, 1);
        sentence(19, "v is 0 to 99");
        evenHouse(12);
        edges("roomFor(0, ?, 30)", 0, 99);
        sentence(19, "n is 0 to 30");
        evenHouse(12);
        edges("roomFor(0, 0, ?)", 0, 30);
        sentence(19, "behind 0 DAYS it is as it is now");
        evenHouse(12);
        due("roomFor(0, 0, 0)", 0);
        due("roomFor(0, 1, 0)", NONE);
        does("change(0, 2, 5)");
        due("roomFor(0, 5, 0)", 0);
        due("roomFor(0, 6, 0)", NONE);
        due("roomFor(0, 5, 30)", 0);
        sentence(19, "the least with which KNOWN is v or more");
        evenHouse(0);
        due("roomFor(0, 1, 1)", 1);
        due("roomFor(0, 6, 1)", 6);
        due("roomFor(0, 7, 1)", NONE);
        due("roomFor(0, 30, 30)", 1);
        due("roomFor(0, 31, 30)", 2);
        due("roomFor(0, 99, 30)", 4);
        due("roomFor(0, 99, 17)", 6);
        due("roomFor(0, 99, 16)", NONE);
        due("count(2)", 0);
        sentence(19, "ROOM is 40 at most");
        diners(EIGHT_COLONELS);
        due("roomFor(0, 8, 1)", 36);
        due("roomFor(1, 5, 1)", 37);
        due("roomFor(1, 8, 1)", 40);
        due("roomFor(1, 9, 1)", NONE);
        due("roomFor(2, 5, 1)", NONE);
        sentence(19, "the least, though with more ROOM KNOWN may be less");
        diners(0, 9);
        text(1, "9*(e=2)");
        due("roomFor(0, 9, 1)", 2);
        due("roomFor(0, 10, 1)", NONE);
        sentence(19, "DAY beyond 9999, too");
        evenHouse(12);
        daysTo(9999);
        does("change(0, 2, 0)");
        due("roomFor(0, 60, 30)", 2);
    }

    private void bests() {
        sentence(20, "COURSES are 0 .. 5");
        evenHouse(12);
        edges("best(?, 0, 0)", 0, 5);
        sentence(20, "n is 0 to 20");
        evenHouse(12);
        edges("best(0, ?, 0)", 0, 20);
        sentence(20, "what is 0 or 1");
        evenHouse(12);
        edges("best(0, 0, ?)", 0, 1);
        sentence(20, "of several the least");
        diners(20, 0);
        due("best(0, 1, 0)", 6);
        due("best(5, 1, 0)", 6);
        does("dish(6, 0, 5)");
        due("best(0, 1, 0)", 7);
        does("dish(0, 0, 6)");
        due("best(0, 1, 0)", 0);
        sentence(20, "behind 0 DAYS all are alike: DISH 0, KNOWN as it is now");
        diners(20, 0);
        does("change(0, 2, 7)");
        due("best(0, 0, 0)", 0);
        due("best(0, 0, 1)", 7);
        sentence(20, "DISH 15 can be the best, at the first COURSE and at the last");
        diners(20, 0);
        does("dish(15, 0, 6)", "dish(15, 1, 6)");
        due("best(0, 1, 0)", 15);
        due("best(5, 1, 0)", 15);
        due("best(5, 1, 1)", 2);
        due("best(5, 20, 1)", 40);
        sentence(20, "KNOWN of all together, each held");
        diners(20, 0, 20, 0);
        due("best(0, 1, 1)", 2);
        due("best(0, 20, 1)", 40);
        does("change(0, 2, 99)", "change(1, 2, 98)");
        due("best(0, 20, 0)", 6);
        due("best(0, 20, 1)", 198);
        does("change(1, 2, 99)");
        due("best(0, 20, 0)", 0);
        due("best(0, 20, 1)", 198);
        sentence(20, "it is only thought");
        diners(20, 0);
        does("best(3, 20, 0)");
        due("menu(3, -1)", 3);
        due("count(1)", 0);
        sentence(20, "DAY beyond 9999, too");
        diners(51, 0);
        does("house(0, 40)");
        daysTo(9999);
        does("change(0, 2, 0)");
        due("best(0, 1, 1)", 24);
        due("best(0, 2, 1)", 25);
        due("best(0, 3, 1)", 49);
    }

    private void swaps() {
        sentence(21, "n is 0 to 20");
        evenHouse(12);
        edges("swap(?)", 0, 20);
        sentence(21, "behind 0 DAYS none make it more");
        evenHouse(1);
        text(1, "s");
        due("swap(0)", -1);
        sentence(21, "10 times the lesser, and the other one: from 0 and 1 to 4 and 5");
        evenHouse(1);
        text(1, "s");
        serve(0, 5, 0, 0, 0, 0);
        due("swap(1)", 1);
        serve(0, 0, 0, 0, 0, 5);
        due("swap(1)", 5);
        does("house(0, 5)");
        serve(5, 5, 5, 5, 0, 1);
        due("swap(1)", 45);
        serve(5, 5, 0, 5, 5, 1);
        due("swap(1)", 25);
        sentence(21, "of several the least");
        evenHouse(1);
        text(1, "s");
        serve(0, 0, 5, 0, 5, 5);
        due("swap(1)", 2);
        does("house(0, 2)");
        serve(0, 0, 0, 0, 0, 5);
        due("swap(1)", 5);
        serve(0, 1, 1, 1, 1, 1);
        due("swap(1)", 2);
        sentence(21, "the best, not the first that is more");
        evenHouse(1);
        text(1, "s");
        due("swap(1)", 5);
        due("swap(20)", 5);
        serve(0, 1, 5, 3, 4, 2);
        due("swap(1)", 2);
        sentence(21, "-1, if none make it more than it is behind n DAYS");
        evenHouse(1);
        text(1, "s");
        serve(5, 4, 3, 2, 1, 0);
        each("swap(?)", -1, 1, 20);
        serve(3, 3, 3, 3, 3, 3);
        due("swap(20)", -1);
        each("told(?)", 0, 1, 2, 3, 4, 5);
        sentence(21, "KNOWN is held: what is beyond 99 is not more");
        evenHouse(1);
        text(1, "s");
        serve(0, 0, 0, 5, 0, 6);
        due("swap(20)", 3);
        due("swap(19)", 5);
        does("change(0, 2, 99)");
        due("swap(20)", -1);
        sentence(21, "it is only thought");
        evenHouse(1);
        text(1, "s");
        does("swap(1)");
        due("menu(0, -1)", 0);
        due("menu(5, -1)", 5);
    }

    private void whoses() {
        sentence(22, "SHEETS are 0 .. 3");
        diners(0, 0);
        does("sheet(0, 8, 0)", "sheet(3, 8, 0)");
        edges("whose(?, 0, 0)", 0, 3);
        sentence(22, "a DINER that there is");
        diners(0, 0, 0, 0);
        does("sheet(0, 8, 0)");
        edges("whose(0, ?, 0)", 0, 1);
        sentence(22, "what is 0 or 1");
        diners(0, 0);
        does("sheet(0, 8, 0)");
        edges("whose(0, 0, ?)", 0, 1);
        sentence(22, "NONE: the SHEET is missing; BEYOND is asked ahead");
        diners(0, 0);
        each("whose(2, 0, ?)", NONE, 0, 1);
        due("whose(2, 1, 0)", BEYOND);
        due("whose(2, 0, 2)", BEYOND);
        due("whose(4, 0, 0)", BEYOND);
        does("sheet(2, 8, 0)", "sheet(2, 0, 0)");
        due("whose(2, 0, 0)", NONE);
        sentence(22, "an empty SHEET: all 70, the first is KIND 0 with GRIEF 0");
        diners(69, 9);
        numbers(0, 32);
        due("whose(0, 0, 0)", 70);
        due("whose(0, 0, 1)", 0);
        sentence(22, "there is none: 0 of them, and NONE of the first");
        diners(0, 0);
        numbers(0, 32, 5);
        due("whose(0, 0, 0)", 0);
        due("whose(0, 0, 1)", NONE);
        numbers(0, 32, -1);
        due("whose(0, 0, 0)", 0);
        due("whose(0, 0, 1)", NONE);
        due("told(2)", 2);
        sentence(22, "the last of 70 can be the only one");
        diners(9, 0);
        text(0, "l>5");
        numbers(0, 8, 1);
        due("whose(0, 0, 0)", 1);
        due("whose(0, 0, 1)", 69);
        does("become(0, 8)");
        due("whose(0, 0, 1)", NONE);
        sentence(22, "by KIND, then by GRIEF");
        diners(0, 0);
        numbers(0, 8, 1);
        due("whose(0, 0, 1)", 3);
        numbers(0, 8, 4);
        due("whose(0, 0, 1)", 18);
        due("whose(0, 0, 0)", 2);
    }

    private void whosesByCourses() {
        sentence(22, "COURSES 0, 1, ..: one, all six");
        diners(0, 0);
        numbers(0, 8, 3);
        due("whose(0, 0, 0)", 9);
        due("whose(0, 0, 1)", 9);
        numbers(0, 8, 3, 3, 3, 3, 3, 3);
        due("whose(0, 0, 0)", 7);
        numbers(0, 8, 3, 3, 3, 3, 3, 4);
        due("whose(0, 0, 0)", 0);
        does("dish(5, 1, 6)");
        due("whose(0, 0, 0)", 3);
        sentence(22, "there is no COURSE 6 of which anything is LEFT");
        diners(0, 0);
        numbers(0, 8, 0, 0, 0, 0, 0, 0);
        due("whose(0, 0, 1)", 0);
        numbers(0, 8, 0, 0, 0, 0, 0, 0, 0);
        due("whose(0, 0, 0)", 0);
        due("whose(0, 0, 1)", NONE);
        does("sheet(0, 8, 40)");
        due("whose(0, 0, 0)", 0);
        sentence(22, "m as it is; on this DAY: even, then odd");
        diners(9, 0);
        numbers(0, 16, 4, 4, 4, 4, 4, 4);
        due("whose(0, 0, 0)", 9);
        due("whose(0, 0, 1)", 18);
        does("days(1)");
        due("whose(0, 0, 0)", 18);
        does("become(0, 0)");
        due("whose(0, 0, 0)", 2);
        sentence(22, "a number is its lowest bits");
        diners(0, 0);
        numbers(0, 8, 260);
        due("whose(0, 0, 1)", 18);
        numbers(0, 16, 260);
        due("whose(0, 0, 1)", NONE);
        sentence(22, "it is only thought");
        diners(9, 4);
        numbers(0, 8, 3);
        does("whose(0, 0, 0)", "whose(0, 0, 1)");
        due("ofDiner(0, 0)", 0);
        due("ofDiner(0, 2)", 4);
    }

    private void loveds() {
        sentence(23, "SHEETS are 0 .. 3");
        diners(0, 0);
        does("sheet(0, 8, 0)", "sheet(3, 8, 0)");
        edges("loved(?, 0)", 0, 3);
        sentence(23, "a DINER that there is");
        diners(0, 0, 0, 0);
        does("sheet(0, 8, 0)");
        edges("loved(0, ?)", 0, 1);
        sentence(23, "NONE: the SHEET is missing; BEYOND is asked ahead");
        diners(0, 0);
        due("loved(1, 0)", NONE);
        due("loved(1, 1)", BEYOND);
        due("loved(-1, 0)", BEYOND);
        sentence(23, "an empty SHEET: all 8 numbers");
        diners(0, 5);
        numbers(0, 32);
        due("loved(0, 0)", 255);
        sentence(23, "behind 1 DAY: itself and those that lack are as nobody");
        diners(0, 5, 35, 9);
        numbers(0, 8, 6);
        due("loved(0, 0)", 2);
        numbers(0, 8, 4);
        due("loved(0, 0)", 253);
        numbers(0, 8, 5);
        due("loved(0, 0)", 0);
        sentence(23, "all but itself");
        diners(30, 5, 30, 9, 30, 9, 30, 9, 30, 9, 30, 9, 30, 9, 30, 9);
        numbers(0, 8, 6);
        due("loved(0, 0)", 254);
        numbers(0, 8, 5);
        due("loved(0, 0)", 1);
        numbers(0, 8, 9);
        due("loved(0, 7)", 255);
        sentence(23, "a full SHEET: behind 40 DAYS, GRIEF held at 9");
        diners(0, 5, 35, 9);
        does("sheet(0, 8, 40)", "put(0, 0, 6)", "put(0, 1, 7)", "put(0, 2, 8)");
        for (int i = 3; i < 40; i++) {
            does("put(0, " + i + ", 9)");
        }
        due("loved(0, 0)", 2);
        does("put(0, 39, 8)");
        due("loved(0, 0)", 0);
        does("put(0, 39, 9)", "put(0, 38, 8)");
        due("loved(0, 0)", 0);
        sentence(23, "it is only thought; DAY beyond 9999, too");
        diners(0, 5, 35, 9);
        daysTo(9999);
        does("change(0, 0, 5)");
        numbers(0, 8, 6, 7, 8, 9, 9);
        due("loved(0, 0)", 2);
        due("ofDiner(0, 3)", 0);
        due("count(1)", 9999);
    }

    private void packs() {
        sentence(24, "room is 0 to 40");
        evenHouse(12);
        edges("pack(?)", 0, 40);
        sentence(24, "no more is LEFT together than room: just so much, one less");
        diners(EIGHT_COLONELS);
        int[][] roomAndTaste = {{0, 0}, {3, 0}, {4, 4}, {7, 4}, {8, 8}, {39, 36}, {40, 40}};
        for (int[] r : roomAndTaste) {
            due("pack(" + r[0] + ")", r[1]);
        }
        does("house(0, 0)");
        due("pack(40)", 40);
        sentence(24, "each plate once");
        diners(0, 0);
        text(0, "s=0");
        text(1, "9");
        due("pack(0)", 0);
        due("pack(1)", 9);
        due("pack(40)", 9);
        sentence(24, "only plates of which anything is LEFT");
        diners(0, 0);
        text(1, "9");
        due("pack(0)", 0);
        due("pack(40)", 0);
        sentence(24, "the most together, not the best one by one");
        diners(0, 9);
        does("dish(0, 1, 6)");
        text(1, "e+1");
        due("pack(2)", 0);
        due("pack(3)", 4);
        due("pack(4)", 5);
        due("pack(6)", 8);
        due("pack(7)", 9);
        due("pack(9)", 12);
        due("pack(10)", 13);
        due("pack(19)", 25);
        due("pack(18)", 21);
        due("pack(15)", 20);
        due("pack(40)", 25);
        sentence(24, "TASTE of a plate, were it eaten whole: 0 to 9");
        diners(10, 9);
        text(1, "e*e");
        due("pack(4)", 9);
        due("pack(40)", 54);
        text(1, "0");
        due("pack(40)", 0);
    }

    private void fews() {
        sentence(25, "v is 0 to 999");
        evenHouse(12);
        each("few(?)", BEYOND, -1, 1000, MIN, MAX);
        due("few(0)", 0);
        due("few(999)", NONE);
        sentence(25, "v or more: just so much, one more; NONE: with none");
        diners(EIGHT_COLONELS);
        text(1, "9");
        due("few(1)", 1);
        due("few(9)", 1);
        due("few(10)", 2);
        due("few(423)", 47);
        due("few(424)", 48);
        due("few(432)", 48);
        due("few(433)", NONE);
        due("told(2)", 1);
        sentence(25, "those of most TASTE");
        evenHouse(12);
        text(1, "s");
        due("few(5)", 1);
        due("few(6)", 2);
        due("few(9)", 2);
        due("few(10)", 3);
        due("few(15)", 5);
        due("few(16)", NONE);
        sentence(25, "no plates, or plates without TASTE: 0 for 0, else NONE");
        diners(0, 0);
        text(1, "9");
        due("few(0)", 0);
        due("few(1)", NONE);
        does("change(0, 0, 9)");
        text(1, "0");
        due("few(0)", 0);
        due("few(1)", NONE);
        sentence(25, "ROOM doesn't matter");
        diners(EIGHT_COLONELS);
        does("house(0, 0)");
        due("few(192)", 48);
        due("few(193)", NONE);
    }

    private void brokens() {
        sentence(26, "n is 0 to 60");
        evenHouse(12);
        edges("broken(?)", 0, 60);
        sentence(26, "GRIEF 9: 8 is not enough; none, one, all as a set");
        diners(30, 8, 30, 8, 30, 8, 30, 8, 30, 8, 30, 8, 30, 8, 30, 8);
        each("broken(?)", 0, 0, 60);
        does("change(0, 0, 9)");
        each("broken(?)", 1, 0, 60);
        does("change(0, 0, 8)", "change(7, 0, 9)");
        each("broken(?)", 128, 0, 60);
        for (int d = 0; d < 7; d++) {
            does("change(" + d + ", 0, 9)");
        }
        each("broken(?)", 255, 0, 1, 60);
        sentence(26, "behind n DAYS");
        diners(0, 9, 30, 8, 10, 9);
        does("change(1, 1, 2)");
        due("broken(0)", 5);
        due("broken(1)", 6);
        due("broken(2)", 2);
        due("count(1)", 0);
        sentence(27, "n is 0 to 60");
        evenHouse(12);
        edges("swill(?)", 0, 60);
        sentence(27, "by how much PIGS are more");
        evenHouse(0);
        does("house(1, 50)");
        due("swill(0)", 0);
        due("swill(1)", 6);
        due("swill(60)", 360);
        does("house(0, 5)");
        due("swill(60)", 60);
        does("house(0, 6)");
        due("swill(60)", 0);
        due("count(3)", 50);
        sentence(27, "PIGS are held");
        evenHouse(0);
        does("house(1, 99999)");
        due("swill(60)", 0);
        does("house(1, 99998)");
        due("swill(1)", 1);
        does("house(1, 99993)");
        due("swill(1)", 6);
        due("swill(2)", 6);
        sentence(27, "DAY beyond 9999, too");
        diners(51, 0);
        does("house(0, 0)");
        daysTo(9999);
        does("house(1, 0)");
        due("swill(1)", 24);
        due("swill(2)", 24);
        due("swill(3)", 48);
    }

    private void cheers() {
        sentence(28, "a DINER that there is");
        due("cheer(0, 0)", BEYOND);
        diners(0, 0, 0, 0);
        edges("cheer(?, 0)", 0, 1);
        sentence(28, "q is 0 to 24");
        diners(0, 0);
        edges("cheer(0, ?)", 0, 24);
        sentence(28, "no more than q quarters: just so many, one less");
        diners(0, 5);
        int[][] qAndGrief = {{0, 2}, {5, 2}, {6, 5}, {11, 5}, {12, 8}, {17, 8}, {18, 9}, {24, 9}};
        for (int[] q : qAndGrief) {
            due("cheer(0, " + q[0] + ")", q[1]);
        }
        does("become(0, 10)");
        due("cheer(0, 23)", 7);
        due("cheer(0, 24)", 9);
        due("ofDiner(0, 2)", 5);
        sentence(28, "NONE: with none, not with GRIEF 0 either");
        diners(0, 5);
        text(0, "1+(g>0)");
        due("cheer(0, 5)", NONE);
        due("cheer(0, 6)", 0);
        due("cheer(0, 11)", 0);
        due("cheer(0, 12)", 9);
        sentence(28, "the most, though with less GRIEF more may be LEFT");
        diners(0, 5);
        text(0, "g<9");
        due("cheer(0, 0)", 9);
        text(0, "4*(g=9)+(g<8)");
        due("cheer(0, 0)", 8);
        sentence(28, "on this DAY");
        diners(59, 5);
        due("cheer(0, 11)", 5);
        does("days(1)");
        due("cheer(0, 18)", 9);
        due("cheer(0, 17)", NONE);
    }

    private void odds() {
        sentence(29, "a DINER that there is");
        due("odds(0, 0, 0, 0)", BEYOND);
        diners(0, 0, 0, 0);
        edges("odds(?, 0, 0, 0)", 0, 1);
        sentence(29, "n is 0 to 30");
        evenHouse(12);
        edges("odds(0, ?, 0, 0)", 0, 30);
        sentence(29, "v is 0 to 99");
        evenHouse(12);
        edges("odds(0, 0, ?, 0)", 0, 99);
        sentence(29, "part is 0 or 1");
        evenHouse(12);
        edges("odds(0, 0, 0, ?)", 0, 1);
        sentence(29, "0 is 0 by 1, all is 1 by 1");
        evenHouse(12);
        fraction("1, 7", 0, 1);
        fraction("1, 0", 1, 1);
        fraction("0, 0", 1, 1);
        fraction("0, 1", 0, 1);
        fraction("30, 99", 9, 10);
        sentence(29, "in lowest terms");
        evenHouse(0);
        fraction("1, 4", 9, 10);
        fraction("1, 5", 4, 5);
        fraction("1, 6", 4, 5);
        lowestTerms();
    }

    private void fraction(String nAndV, int above, int below) {
        due("odds(0, " + nAndV + ", 0)", above);
        due("odds(0, " + nAndV + ", 1)", below);
    }

    /** Eight COLONELS leave 4 quarters of each plate, so the plate of DINER d is what ROOM holds from 4 * d on. */
    private void lowestTerms() {
        sentence(29, "ROOM is 0, 4, 8, .. 36: how many of ten are enough for the first plate of each");
        diners(EIGHT_COLONELS);
        int[][] fractions = {{9, 10}, {4, 5}, {7, 10}, {3, 5}, {1, 2}, {2, 5}, {3, 10}, {1, 5}};
        for (int d = 0; d < 8; d++) {
            due("odds(" + d + ", 1, 1, 0)", fractions[d][0]);
            due("odds(" + d + ", 1, 1, 1)", fractions[d][1]);
            due("odds(" + d + ", 1, 4, 0)", fractions[d][0]);
        }
        sentence(29, "ROOM 36 is the last: 40 is none of them");
        diners(EIGHT_COLONELS);
        due("odds(0, 1, 5, 0)", 1);
        due("odds(0, 1, 8, 1)", 10);
        due("odds(0, 1, 9, 0)", 0);
        due("odds(1, 1, 5, 0)", 0);
        due("odds(1, 1, 5, 1)", 1);
        due("count(2)", 12);
        sentence(29, "DAY beyond 9999, too");
        evenHouse(12);
        daysTo(9999);
        does("change(0, 2, 0)");
        fraction("2, 9", 4, 5);
    }

    public static void main(String[] args) {
        ThoughtEdgesTest t = new ThoughtEdgesTest();
        t.thens();
        t.outs();
        t.firsts();
        t.rooms();
        t.bests();
        t.swaps();
        t.whoses();
        t.whosesByCourses();
        t.loveds();
        t.packs();
        t.fews();
        t.brokens();
        t.cheers();
        t.odds();
        t.end(16, 29);
    }
}

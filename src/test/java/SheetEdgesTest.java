/** Promises 30 to 43: draws, voices, sheets, images, what is told; each sentence that names an edge. */
public final class SheetEdgesTest extends Edges {
    private void seeds() {
        sentence(30, "z becomes v: any number; what it was");
        due("seed(0)", 1);
        due("seed(MIN)", 0);
        due("seed(MAX)", MIN);
        due("seed(-1)", MAX);
        due("count(10)", -1);
        sentence(30, "a number that looks like an ERROR is none");
        for (int error = KIND; error <= BEYOND; error++) {
            does("seed(" + error + ")");
            due("count(10)", error);
        }
        due("seed(1)", BEYOND);
        each("told(?)", 0, 1, 2, 3, 4, 5);
    }

    private void voices() {
        sentence(31, "a DINER that there is");
        due("voice(0, 0, 0)", BEYOND);
        diners(0, 0, 0, 0);
        edges("voice(?, 0, 0)", 0, 1);
        sentence(31, "acts are 0 to 3");
        diners(0, 0);
        edges("voice(0, ?, 0)", 0, 3);
        sentence(31, "ints that go round: DINER");
        diners(1, 0, 1, 0);
        due("voice(1, 0, MAX)", MIN);
        due("voice(0, 0, MAX)", MAX);
        due("voice(1, 1, 1073741823)", MIN);
        due("voice(1, 1, MAX)", 0);
        due("voice(0, 2, MIN)", MAX);
        due("voice(0, 3, MIN)", MAX);
        sentence(31, "ints that go round: the other KINDS");
        diners(0, 0, 10, 0);
        due("voice(1, 0, MAX)", MIN);
        does("become(1, 29)");
        due("voice(1, 1, MAX)", 8);
        does("become(1, 30)");
        due("voice(1, 2, MIN)", MIN);
        does("become(1, 31)");
        due("voice(1, 2, MIN)", -MAX);
        does("become(1, 59)");
        due("voice(1, 1, MAX)", 10);
        due("voice(1, 1, 2147483646)", 8);
        sentence(31, "n is the number of the DINER, from 0 to 7");
        diners(60, 0, 0, 0, 0, 0, 0, 0, 0, 0, 0, 0, 0, 0, 69, 0);
        due("voice(0, 0, 0)", 0);
        due("voice(7, 0, 0)", 7);
        due("voice(7, 2, 0)", 14);
        due("voice(7, 3, 0)", 14);
        due("voice(0, 3, 0)", 0);
        sentence(31, "each BODY's own numbers and signs, n 1, m 3, x 5");
        diners(0, 0, 0, 0);
        int[][] said = {{6, 12, 2, 14}, {18, 36, 2, 38}, {6, 14, 2, 12}, {6, 12, -2, -14}, {18, 36, 2, 29},
            {6, 16, 2, 18}, {6, 12, -1, 25}};
        for (int kind = 0; kind <= 6; kind++) {
            does("become(1, " + (10 * kind + 3) + ")");
            for (int act = 0; act <= 3; act++) {
                due("voice(1, " + act + ", 5)", said[kind][act]);
            }
        }
        sentence(31, "any number: one that looks like an ERROR is none");
        diners(0, 0);
        due("voice(0, 0, -1000000001)", BEYOND);
        due("voice(0, 2, -1000000005)", KIND);
        each("told(?)", 0, 1, 2, 3, 4, 5);
        due("count(9)", 1);
    }

    private void bodies(int km, int act, int... began) {
        sentence(32, "BODIES as they began, of km " + km + ", act " + act);
        diners(0, 0, km, 0);
        does("voice(1, " + act + ", 5)");
        due("count(9)", began.length);
        for (int i = 0; i < began.length; i++) {
            due("trace(" + i + ")", began[i]);
        }
        each("trace(?)", NONE, -1, began.length, 39, 40, MIN, MAX);
    }

    private void traces() {
        sentence(32, "NONE: no voice() yet");
        each("trace(?)", NONE, 0, -1, 40, MIN, MAX);
        due("count(9)", 0);
        bodies(3, 0, 10);
        bodies(3, 1, 11, 10);
        bodies(3, 2, 12);
        bodies(3, 3, 13, 11, 10, 12);
        bodies(13, 0, 20, 10);
        bodies(13, 1, 11, 20, 10);
        bodies(13, 3, 13, 11, 20, 10, 12);
        bodies(23, 1, 30, 11, 10, 12);
        bodies(23, 3, 13, 30, 11, 10, 12, 12);
        bodies(33, 2, 40, 12);
        bodies(33, 3, 13, 11, 10, 40, 12);
        bodies(43, 0, 20, 10);
        bodies(43, 2, 12);
        bodies(43, 3, 50, 13, 11, 20, 10, 12, 20, 10);
        bodies(53, 0, 10);
        bodies(53, 1, 60, 30, 11, 10, 12);
        bodies(53, 3, 13, 60, 30, 11, 10, 12, 12);
        bodies(63, 1, 11, 10);
        bodies(63, 2, 70, 40, 12);
        // The most that a voice can begin: of the 40 that THE TRACE has room for, 9 are ever used.
        bodies(63, 3, 71, 11, 10, 13, 11, 10, 70, 40, 12);
        sentence(32, "of the latest voice(): a shorter one leaves nothing of the one ahead");
        diners(60, 0);
        does("voice(0, 3, 0)", "voice(0, 0, 0)");
        due("trace(0)", 10);
        due("trace(1)", NONE);
        sentence(32, "a refused voice() leaves THE TRACE");
        diners(30, 0);
        does("voice(0, 2, 0)");
        due("voice(1, 0, 0)", BEYOND);
        due("voice(0, 4, 0)", BEYOND);
        due("trace(0)", 40);
        due("trace(1)", 12);
        due("count(9)", 2);
    }

    private void laying() {
        sentence(33, "SHEETS are 0 .. 3");
        edges("sheet(?, 8, 1)", 0, 3);
        sentence(33, "bits are 8, 16, 32 or 0");
        each("sheet(0, ?, 1)", BEYOND, -8, -1, 1, 7, 9, 15, 17, 24, 31, 33, 64, MIN, MAX);
        each("sheet(0, ?, 1)", 1, 8, 16, 32, 0);
        sentence(33, "at most 40 numbers; STATE below 0");
        each("sheet(0, 8, ?)", STATE, -1, MIN);
        each("sheet(0, 8, ?)", BEYOND, 41, MAX);
        each("sheet(0, 8, ?)", 1, 0, 40);
        due("told(3)", 2);
        due("told(1)", 2);
        sentence(33, "by 0 bits n doesn't matter");
        each("sheet(0, 0, ?)", 1, -1, 0, 41, MIN, MAX);
        due("judge(0)", NONE);
        sentence(33, "BEYOND of the SHEET and of bits is asked ahead of STATE");
        each("sheet(?, 8, -1)", BEYOND, -1, 4);
        each("sheet(0, ?, -1)", BEYOND, -1, 9, 33);
        due("sheet(4, 0, 0)", BEYOND);
        sentence(33, "all 0, whatever stood there");
        numbers(0, 8, 5, 6, 7);
        does("sheet(0, 8, 6)");
        due("menus(0)", 6);
        each("ofDish(?, 2)", 0, 5, 6, 7);
        due("ofDish(0, 2)", 63);
        sentence(33, "it is missing, and comes back empty");
        numbers(0, 32, 5, 6);
        does("sheet(0, 0, 2)");
        due("menus(0)", NONE);
        does("sheet(0, 32, 2)");
        due("menus(0)", 2);
        due("ofDish(0, 2)", 3);
        sentence(33, "a refused one leaves the SHEET as it was");
        numbers(0, 8, 5, 6);
        due("sheet(0, 8, -1)", STATE);
        due("sheet(0, 8, 41)", BEYOND);
        due("sheet(0, 7, 1)", BEYOND);
        due("menus(0)", 2);
        due("menu(0, -1)", 5);
        due("menu(1, -1)", 6);
        sentence(33, "the SHEET's other numbers are its own");
        numbers(0, 8, 1);
        numbers(1, 8, 2);
        numbers(2, 8, 3);
        numbers(3, 8, 4);
        for (int s = 0; s < 4; s++) {
            due("menus(" + s + ")", 1);
            due("menu(0, -1)", s + 1);
        }
    }

    private void putting() {
        sentence(34, "BEYOND: no such SHEET, ahead of NONE");
        each("put(?, 0, 0)", BEYOND, -1, 4, MIN, MAX);
        sentence(34, "NONE: it is missing, ahead of BEYOND: no such number");
        each("put(0, ?, 0)", NONE, -1, 0, 40, MIN, MAX);
        sentence(34, "BEYOND: no such number");
        numbers(0, 8, 1, 2, 3);
        each("put(0, ?, 0)", BEYOND, -1, 3, 39, 40, MIN, MAX);
        each("put(0, ?, 7)", 1, 0, 2);
        does("sheet(1, 8, 40)");
        due("put(1, 39, 7)", 1);
        due("put(1, 40, 7)", BEYOND);
        does("sheet(2, 8, 0)");
        each("put(2, ?, 0)", BEYOND, -1, 0);
        sentence(34, "its lowest bits, of 8");
        bits(8, 256, 1);
        bits(8, 256 + 15, 16);
        bits(8, 255, 0);
        bits(8, -1, 0);
        bits(8, -256, 1);
        bits(8, MIN, 1);
        bits(8, MAX, 0);
        bits(8, 128, 0);
        sentence(34, "its lowest bits, of 16");
        bits(16, 65536, 1);
        bits(16, 65536 + 15, 16);
        bits(16, 256, 0);
        bits(16, 65535, 0);
        bits(16, -1, 0);
        bits(16, -65536, 1);
        bits(16, MIN, 1);
        bits(16, 32768, 0);
        sentence(34, "its lowest bits, of 32: all");
        bits(32, 65536, 0);
        bits(32, 256, 0);
        bits(32, -1, 0);
        bits(32, MIN, 0);
        bits(32, MAX, 0);
        bits(32, 15, 16);
        sentence(34, "a refused one leaves the numbers");
        numbers(0, 8, 1, 2);
        due("put(0, 2, 9)", BEYOND);
        due("put(0, -1, 9)", BEYOND);
        due("menus(0)", 2);
        due("menu(0, -1)", 1);
        due("menu(1, -1)", 2);
    }

    /** A number that is put becomes a DISH: the one less than this, or none if this is 0. */
    private void bits(int bits, int v, int dishAnd1) {
        numbers(0, bits, v);
        due("menus(0)", dishAnd1 == 0 ? 0 : 1);
        if (dishAnd1 > 0) {
            due("menu(0, -1)", dishAnd1 - 1);
        }
    }

    private void sixAre(int sheet, int... dishes) {
        due("menus(" + sheet + ")", dishes.length);
        for (int i = 0; i < dishes.length; i++) {
            due("menu(" + i + ", -1)", dishes[i]);
        }
    }

    private void moving() {
        sentence(35, "BEYOND: no such SHEET, either of them, ahead of NONE");
        each("move(?, 0, 0, 0, 0)", BEYOND, -1, 4, MIN, MAX);
        each("move(0, 0, ?, 0, 0)", BEYOND, -1, 4, MIN, MAX);
        sentence(35, "NONE: one is missing, ahead of KIND and BEYOND of numbers");
        does("sheet(0, 8, 2)");
        due("move(0, 0, 1, 0, 1)", NONE);
        due("move(1, 0, 0, 0, 1)", NONE);
        due("move(1, -1, 0, -1, -1)", NONE);
        due("move(1, 0, 1, 0, 0)", NONE);
        sentence(35, "KIND: they are of unlike bits, ahead of BEYOND of numbers");
        does("sheet(0, 8, 2)", "sheet(1, 16, 2)", "sheet(2, 32, 2)");
        due("move(0, 0, 1, 0, 1)", KIND);
        due("move(1, 0, 2, 0, 1)", KIND);
        due("move(2, 0, 0, 0, 0)", KIND);
        due("move(0, -1, 1, 9, -1)", KIND);
        sentence(35, "BEYOND: n, i, or j is below 0");
        does("sheet(0, 8, 4)", "sheet(1, 8, 4)");
        each("move(0, 0, 1, 0, ?)", BEYOND, -1, MIN);
        each("move(0, ?, 1, 0, 1)", BEYOND, -1, MIN);
        each("move(0, 0, 1, ?, 1)", BEYOND, -1, MIN);
        each("move(0, ?, 1, 0, 0)", BEYOND, -1, MIN);
        each("move(0, 0, 1, ?, 0)", BEYOND, -1, MIN);
        sentence(35, "BEYOND: they don't stand there, in the one or in the other");
        does("sheet(0, 8, 4)", "sheet(1, 8, 3)");
        due("move(0, 0, 1, 0, 3)", 3);
        due("move(0, 1, 1, 0, 3)", 3);
        due("move(0, 2, 1, 0, 3)", BEYOND);
        due("move(0, 0, 1, 1, 3)", BEYOND);
        due("move(0, 0, 1, 0, 4)", BEYOND);
        due("move(1, 0, 0, 0, 4)", BEYOND);
        due("move(0, 3, 1, 2, 1)", 1);
        due("move(0, 4, 1, 2, 1)", BEYOND);
        due("move(0, 3, 1, 3, 1)", BEYOND);
        sentence(35, "far off: numbers that would wrap");
        does("sheet(0, 8, 4)", "sheet(1, 8, 4)");
        due("move(0, 1, 1, 0, MAX)", BEYOND);
        due("move(0, MAX, 1, 0, 1)", BEYOND);
        due("move(0, 0, 1, MAX, 1)", BEYOND);
        due("move(0, MAX, 1, MAX, MAX)", BEYOND);
        due("move(0, MIN, 1, MIN, MIN)", BEYOND);
        sentence(35, "no numbers: at the end of a SHEET, not behind it");
        does("sheet(0, 8, 4)", "sheet(1, 8, 0)");
        due("move(0, 4, 1, 0, 0)", 0);
        due("move(0, 5, 1, 0, 0)", BEYOND);
        due("move(0, 4, 1, 1, 0)", BEYOND);
        due("move(1, 0, 1, 0, 0)", 0);
        due("move(1, 0, 0, 0, 1)", BEYOND);
    }

    private void moved() {
        sentence(35, "to another SHEET: the rest stays");
        numbers(0, 16, 1, 2, 3, 4, 5, 6);
        numbers(1, 16, 10, 10, 10, 10, 10, 10);
        due("move(0, 2, 1, 3, 2)", 2);
        sixAre(1, 10, 10, 10, 3, 4, 10);
        sixAre(0, 1, 2, 3, 4, 5, 6);
        sentence(35, "to the same SHEET, as they all were: up and down");
        numbers(0, 32, 1, 2, 3, 4, 5, 6);
        due("move(0, 0, 0, 1, 5)", 5);
        sixAre(0, 1, 1, 2, 3, 4, 5);
        numbers(0, 32, 1, 2, 3, 4, 5, 6);
        due("move(0, 1, 0, 0, 5)", 5);
        sixAre(0, 2, 3, 4, 5, 6, 6);
        due("move(0, 0, 0, 0, 6)", 6);
        sixAre(0, 2, 3, 4, 5, 6, 6);
        sentence(35, "a full SHEET at once");
        does("sheet(0, 8, 40)", "sheet(1, 8, 40)", "put(0, 0, 9)", "put(0, 39, 8)");
        due("move(0, 0, 1, 0, 40)", 40);
        due("move(0, 0, 1, 0, 41)", BEYOND);
        due("move(0, 1, 1, 0, 40)", BEYOND);
        does("move(1, 39, 1, 1, 1)");
        sixAre(1, 9, 8, 0, 0, 0, 0);
        sentence(35, "all 32 bits come along");
        numbers(0, 32, 65536 + 5, 5);
        numbers(1, 32, 5, 5);
        does("move(0, 0, 1, 1, 1)");
        due("menus(1)", 1);
        sentence(35, "a refused one leaves both");
        numbers(0, 8, 1, 2, 3);
        numbers(1, 8, 4, 5, 6);
        due("move(0, 1, 1, 0, 3)", BEYOND);
        due("move(0, 0, 1, 1, 3)", BEYOND);
        sixAre(0, 1, 2, 3);
        sixAre(1, 4, 5, 6);
    }

    private void serving() {
        sentence(36, "BEYOND: no such SHEET; NONE: it is missing");
        each("menus(?)", BEYOND, -1, 4, MIN, MAX);
        each("menus(?)", NONE, 0, 3);
        sentence(36, "an empty SHEET: 0");
        does("sheet(0, 8, 0)");
        due("menus(0)", 0);
        due("menu(0, -1)", 0);
        sentence(36, "up to the first that is not 0 to 15: those ahead of it become DISHES");
        numbers(0, 32, 15, 0, 16, 9);
        due("menus(0)", 2);
        due("menu(0, -1)", 15);
        due("menu(1, -1)", 0);
        due("menu(2, -1)", 2);
        due("menu(3, -1)", 3);
        numbers(0, 32, 7, -1);
        due("menus(0)", 1);
        due("menu(0, -1)", 7);
        due("menu(1, -1)", 0);
        numbers(0, 32, 16, 1);
        due("menus(0)", 0);
        due("menu(0, -1)", 7);
        numbers(0, 32, MIN);
        due("menus(0)", 0);
        numbers(0, 32, MAX);
        due("menus(0)", 0);
        each("told(?)", 0, 1, 2, 3, 4, 5);
        sentence(36, "or for which there is no COURSE: six, seven, forty");
        numbers(0, 8, 10, 11, 12, 13, 14, 15);
        sixAre(0, 10, 11, 12, 13, 14, 15);
        numbers(0, 8, 9, 8, 7, 6, 5, 4, 3);
        due("menus(0)", 6);
        due("menu(5, -1)", 4);
        due("ofDish(3, 2)", 0);
        does("sheet(0, 8, 40)");
        due("menus(0)", 6);
        due("ofDish(0, 2)", 63);
        sentence(36, "fewer than six: the other COURSES stay");
        numbers(0, 8, 9, 9, 9, 9, 9);
        due("menus(0)", 5);
        due("menu(5, -1)", 5);
    }

    private void judging() {
        sentence(37, "BEYOND: no such SHEET; NONE: it is missing");
        each("judge(?)", BEYOND, -1, 4, MIN, MAX);
        each("judge(?)", NONE, 0, 3);
        sentence(37, "none and none: all are");
        does("sheet(0, 8, 0)");
        due("judge(0)", -1);
        sentence(37, "one that lacks: the SHEET is too short");
        diners(0, 3, 0, 4);
        numbers(0, 8);
        due("judge(0)", 0);
        numbers(0, 8, 3);
        due("judge(0)", 1);
        sentence(37, "one too many: there is no such DINER");
        numbers(0, 8, 0);
        due("judge(0)", 0);
        diners(0, 0);
        due("judge(0)", -1);
        numbers(0, 8, 0, 0);
        due("judge(0)", 1);
        sentence(37, "the first that isn't so: at the start, at the end, ahead of one that lacks or is too many");
        diners(0, 3, 0, 4, 0, 9);
        numbers(0, 8, 3, 4, 9);
        due("judge(0)", -1);
        numbers(0, 8, 2, 4, 9);
        due("judge(0)", 0);
        numbers(0, 8, 3, 4, 8);
        due("judge(0)", 2);
        numbers(0, 8, 3, 5);
        due("judge(0)", 1);
        numbers(0, 8, 3, 5, 9, 0);
        due("judge(0)", 1);
        numbers(0, 8, 3, 4, 9, 0);
        due("judge(0)", 3);
        sentence(37, "eight DINERS and forty numbers");
        diners(0, 0, 0, 0, 0, 0, 0, 0, 0, 0, 0, 0, 0, 0, 0, 0);
        does("sheet(0, 8, 40)");
        due("judge(0)", 8);
        does("sheet(0, 8, 8)");
        due("judge(0)", -1);
        does("sheet(0, 8, 7)");
        due("judge(0)", 7);
        each("told(?)", 0, 1, 2, 3, 4, 5);
    }

    private void imaging() {
        sentence(38, "how often that was done, kept or not");
        due("image()", 1);
        due("image()", 2);
        does("restore()");
        due("image()", 3);
        sentence(38, "in place of one ahead");
        does("house(0, 1)", "image()", "house(0, 2)", "image()", "house(0, 3)", "restore()");
        due("count(2)", 2);
        does("house(0, 4)", "restore()");
        due("count(2)", 2);
        sentence(39, "NONE: there is none, and nothing changes");
        diners(0, 5);
        does("days(1)", "house(0, 7)");
        due("restore()", NONE);
        due("count(0)", 1);
        due("count(1)", 1);
        due("count(2)", 7);
        due("told(2)", 1);
        due("image()", 1);
        due("restore()", 1);
        sentence(39, "DAY: the first and the last");
        due("image()", 1);
        daysTo(9999);
        due("restore()", 0);
        daysTo(9999);
        does("image()", "restore()");
        due("restore()", 9999);
        due("days(1)", STATE);
    }

    private void restoringAll() {
        sentence(39, "an IMAGE of a house as at first");
        does("image()");
        diners(0, 9, 0, 9, 0, 9, 0, 9, 0, 9, 0, 9, 0, 9, 0, 9);
        text(0, "4");
        text(1, "9");
        tape("12345678901234567890123456789012345678901234567890");
        for (int i = 0; i < 20; i++) {
            does("tell(5)");
        }
        does("dish(0, 0, 9)", "dish(15, 1, 9)", "menu(0, 15)", "house(0, 40)", "house(1, 99999)", "seed(9)", "loose(3)");
        due("restore()", 0);
        int[] counts = {0, 0, 12, 0, 0, 0, 60, 0, 0, 0, 1};
        for (int what = 0; what < counts.length; what++) {
            due("count(" + what + ")", counts[what]);
        }
        for (int course = 0; course < 6; course++) {
            due("menu(" + course + ", -1)", course);
        }
        due("ofDish(0, 0)", 0);
        due("ofDish(15, 1)", 3);
        due("law(0, 1, 0, 0)", 1);
        due("law(1, 1, 0, 0)", 1);
        due("check()", 0);
        due("text(0)", -10);
        due("diner(0, 3)", 0);
        due("ofDiner(0, 3)", 0);
        due("ofDiner(0, 4)", 0);
        due("ofDiner(0, 6)", 1);
        sentence(39, "an IMAGE of all that is full");
        diners(1, 9, 12, 8, 23, 7, 34, 6, 45, 5, 56, 4, 67, 3, 8, 2);
        text(0, "l+1");
        text(1, "e+1");
        tape("1+".repeat(24) + "11");
        for (int i = 0; i < 20; i++) {
            does("tell(" + i + ")");
        }
        does("change(7, 1, 0)", "change(7, 2, 99)", "image()");
        does("text(0)", "text(1)", "check()", "change(7, 1, 7)", "change(7, 2, 1)", "change(7, 0, 9)", "become(7, 60)");
        does("days(1)", "restore()");
        int[] last = {0, 8, 2, 0, 99, 1, 1};
        for (int what = 0; what < last.length; what++) {
            due("ofDiner(7, " + what + ")", last[what]);
        }
        due("count(0)", 8);
        due("count(4)", 44);
        due("count(7)", 50);
        due("count(8)", 20);
        due("tell(0)", FULL);
        due("feed(0, 1)", FULL);
        due("diner(0, 0)", FULL);
        due("law(0, 1, 0, 0)", 2);
        due("law(1, 1, 0, 0)", 2);
        due("text(0)", 1);
        due("law(0, 0, 0, 0)", 4);
        // The numbers that wait came back too: the first, 0, is not PIGS behind a DAY.
        due("check()", 1);
    }

    private void notInImage() {
        sentence(38, "all but SHEETS");
        numbers(0, 8, 7);
        does("image()", "put(0, 0, 9)", "sheet(1, 8, 1)", "restore()");
        sixAre(0, 9);
        due("menus(1)", 1);
        does("sheet(0, 0, 0)", "restore()");
        due("menus(0)", NONE);
        sentence(38, "all but THE TRACE");
        diners(30, 0);
        does("voice(0, 0, 0)", "image()", "voice(0, 2, 0)", "restore()");
        due("count(9)", 2);
        due("trace(0)", 40);
        sentence(38, "all but what told() tells");
        does("image()");
        due("told(6)", BEYOND);
        due("trace(0)", NONE);
        does("restore()");
        due("told(1)", 1);
        due("told(2)", 1);
        sentence(39, "a DINER that lacks again is nobody, now and in thought");
        diners(0, 5);
        does("change(0, 1, 1)", "image()");
        diners(10, 9);
        due("then(1, 0, 0)", 6);
        does("days(1)");
        due("ofDiner(0, 2)", 6);
        does("restore()");
        due("then(1, 0, 0)", 4);
        does("days(1)");
        due("ofDiner(0, 2)", 4);
        due("diner(0, 0)", 1);
        due("ofDiner(1, 4)", 0);
        sentence(39, "the IMAGE stays as it was, whatever is done behind restore()");
        diners(0, 9);
        does("image()");
        for (int i = 0; i < 3; i++) {
            does("days(5)", "dish(0, 1, 9)", "menu(1, 0)", "change(0, 2, 50)", "become(0, 31)", "tell(1)", "feed(1, 1)");
            due("restore()", 0);
            due("ofDiner(0, 2)", 9);
            due("ofDiner(0, 4)", 0);
            due("ofDiner(0, 0)", 0);
            due("ofDish(0, 1)", 3);
            due("menu(1, -1)", 1);
            due("count(7)", 0);
            due("count(8)", 0);
        }
    }

    private void telling() {
        sentence(40, "how many; FULL: 20 wait");
        for (int i = 1; i <= 20; i++) {
            due("tell(0)", i);
        }
        due("tell(0)", FULL);
        due("count(8)", 20);
        due("told(4)", 1);
        due("check()", 0);
        due("tell(0)", 1);
        sentence(40, "any number can wait");
        each("tell(?)", 1, MIN);
        each("tell(?)", 2, MAX);
        each("tell(?)", 3, BEYOND);
        due("check()", 1);
        sentence(41, "none wait: 0");
        due("check()", 0);
        due("count(8)", 0);
        sentence(41, "behind 1, 2, .. DAYS: all 20 are so; none wait then");
        diners(30, 3);
        does("house(0, 0)");
        for (int i = 1; i <= 20; i++) {
            does("tell(" + 6 * i + ")");
        }
        due("check()", 0);
        due("count(8)", 0);
        due("check()", 0);
        sentence(41, "1 and the place of the first that isn't so: the last of 20");
        diners(30, 3);
        does("house(0, 0)");
        for (int i = 1; i < 20; i++) {
            does("tell(" + 6 * i + ")");
        }
        does("tell(121)");
        due("check()", 20);
        due("count(8)", 0);
        sentence(41, "the first of several that aren't so");
        diners(30, 3);
        does("house(0, 0)", "tell(5)", "tell(5)");
        due("check()", 1);
        does("tell(6)", "tell(5)", "tell(5)");
        due("check()", 2);
        does("tell(6)", "tell(12)", "tell(0)", "tell(24)");
        due("check()", 3);
        does("tell(0)", "tell(6)");
        due("check()", 1);
        due("count(1)", 0);
        sentence(41, "PIGS are held, DAY beyond 9999");
        diners(30, 3);
        does("house(0, 0)");
        daysTo(9999);
        does("house(1, 99990)", "tell(99996)", "tell(99999)", "tell(99999)");
        due("check()", 0);
        due("count(3)", 99990);
        each("told(?)", 0, 1, 2, 3, 4, 5);
    }

    private void counting() {
        sentence(42, "what is 0 to 10");
        edges("count(?)", 0, 10);
        sentence(42, "all together, at the most");
        for (int d = 0; d < 8; d++) {
            diners(0, 9);
            does("change(" + d + ", 2, 99)");
        }
        for (int dish = 0; dish < 16; dish++) {
            does("dish(" + dish + ", 0, 9)");
        }
        due("count(0)", 8);
        due("count(4)", 72);
        due("count(5)", 792);
        due("count(6)", 144);
        sentence(42, "all together, at the least");
        diners(0, 0);
        for (int dish = 0; dish < 16; dish++) {
            does("dish(" + dish + ", 0, 0)");
        }
        due("count(4)", 0);
        due("count(5)", 0);
        due("count(6)", 0);
        sentence(43, "k is 1 .. 5; another k is BEYOND, and counted, too");
        each("told(?)", BEYOND, 0, 6, -1, MIN, MAX);
        due("told(1)", 5);
        each("told(?)", 0, 2, 3, 4, 5);
        sentence(43, "each ERROR by its own number");
        diners(0, 0);
        due("trace(0)", NONE);
        due("told(2)", 1);
        due("sheet(0, 8, -1)", STATE);
        due("told(3)", 1);
        due("as(0, 1)", KIND);
        due("told(5)", 1);
        diners(0, 0, 0, 0, 0, 0, 0, 0, 0, 0, 0, 0, 0, 0);
        due("diner(0, 0)", FULL);
        due("told(4)", 1);
        due("told(1)", 0);
        due("count(11)", BEYOND);
        due("told(1)", 1);
        sentence(43, "hundreds are counted");
        for (int i = 0; i < 500; i++) {
            due("count(-1)", BEYOND);
        }
        due("told(1)", 500);
    }

    public static void main(String[] args) {
        SheetEdgesTest t = new SheetEdgesTest();
        t.seeds();
        t.voices();
        t.traces();
        t.laying();
        t.putting();
        t.moving();
        t.moved();
        t.serving();
        t.judging();
        t.imaging();
        t.restoringAll();
        t.notInImage();
        t.telling();
        t.counting();
        t.end(30, 43);
    }
}

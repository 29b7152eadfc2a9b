/** For each promise of the document: ordinary inputs, the edges that it names, wrong inputs. */
public final class PromisesTest {
    private static final int BEYOND = -1000000001;
    private static final int NONE = -1000000002;
    private static final int STATE = -1000000003;
    private static final int FULL = -1000000004;
    private static final int KIND = -1000000005;
    private static int promise = 0;
    private static int asked = 0;
    private static int wrong = 0;

    private static void due(String call, int got, int want) {
        asked++;
        if (got != want) {
            wrong++;
            System.out.println("promise " + promise + ": " + call + " answered " + got + ", due is " + want);
        }
    }

    /** Feeds a text in words of 8 bytes, then makes it the TEXT of a USE. */
    private static int textOf(ScullerySweets x, int use, String text) {
        feedAll(x, text);
        return x.text(use);
    }

    private static void feedAll(ScullerySweets x, String text) {
        for (int from = 0; from < text.length(); from += 8) {
            int n = Math.min(8, text.length() - from);
            long word = 0;
            for (int i = 0; i < n; i++) {
                word |= (long) (text.charAt(from + i) & 255) << (8 * i);
            }
            x.feed(word, n);
        }
    }

    private static void sheetOf(ScullerySweets x, int sheet, int... numbers) {
        x.sheet(sheet, 32, numbers.length);
        for (int i = 0; i < numbers.length; i++) {
            x.put(sheet, i, numbers[i]);
        }
    }

    private static ScullerySweets house(int... kmAndGrief) {
        ScullerySweets x = new ScullerySweets();
        for (int i = 0; i + 1 < kmAndGrief.length; i += 2) {
            x.diner(kmAndGrief[i], kmAndGrief[i + 1]);
        }
        return x;
    }

    private static void newObject() {
        promise = 1;
        ScullerySweets x = new ScullerySweets();
        int[] counts = {0, 0, 12, 0, 0, 0, 60, 0, 0, 0, 1};
        for (int what = 0; what < counts.length; what++) {
            due("count(" + what + ")", x.count(what), counts[what]);
        }
        for (int dish = 0; dish < 16; dish++) {
            due("ofDish(" + dish + ", 0)", x.ofDish(dish, 0), dish % 10);
            due("ofDish(" + dish + ", 1)", x.ofDish(dish, 1), 3);
            due("ofDish(" + dish + ", 2)", x.ofDish(dish, 2), dish < 6 ? 1 << dish : 0);
        }
        for (int k = 1; k <= 5; k++) {
            due("told(" + k + ")", x.told(k), 0);
        }
        for (int i = 0; i < 4; i++) {
            due("judge(" + i + ")", x.judge(i), NONE);
        }
        due("restore()", x.restore(), NONE);
        due("ofDiner(0, 0)", x.ofDiner(0, 0), BEYOND);
    }

    private static void dishes() {
        promise = 2;
        ScullerySweets x = new ScullerySweets();
        due("dish(15, 0, 9)", x.dish(15, 0, 9), 5);
        due("dish(15, 0, 0)", x.dish(15, 0, 0), 9);
        due("dish(15, 1, 8)", x.dish(15, 1, 8), 3);
        due("dish(15, 1, 2)", x.dish(15, 1, 2), 8);
        due("dish(-1, 0, 0)", x.dish(-1, 0, 0), BEYOND);
        due("dish(16, 0, 0)", x.dish(16, 0, 0), BEYOND);
        due("dish(0, -1, 0)", x.dish(0, -1, 0), BEYOND);
        due("dish(0, 2, 0)", x.dish(0, 2, 0), BEYOND);
        due("dish(0, 0, -1)", x.dish(0, 0, -1), BEYOND);
        due("dish(0, 1, 10)", x.dish(0, 1, 10), BEYOND);
        due("told(1)", x.told(1), 6);
        promise = 3;
        due("ofDish(15, 0)", x.ofDish(15, 0), 0);
        due("ofDish(15, 1)", x.ofDish(15, 1), 2);
        due("ofDish(0, 3)", x.ofDish(0, 3), BEYOND);
        due("ofDish(0, -1)", x.ofDish(0, -1), BEYOND);
        due("ofDish(16, 0)", x.ofDish(16, 0), BEYOND);
        due("ofDish(-1, 0)", x.ofDish(-1, 0), BEYOND);
        promise = 4;
        due("menu(5, 15)", x.menu(5, 15), 5);
        due("menu(1, 15)", x.menu(1, 15), 1);
        due("ofDish(15, 2)", x.ofDish(15, 2), 34);
        due("ofDish(5, 2)", x.ofDish(5, 2), 0);
        due("menu(5, -1)", x.menu(5, -1), 15);
        due("menu(5, 0)", x.menu(5, 0), 15);
        due("menu(-1, 0)", x.menu(-1, 0), BEYOND);
        due("menu(6, -1)", x.menu(6, -1), BEYOND);
        due("menu(0, 16)", x.menu(0, 16), BEYOND);
        due("menu(0, -2)", x.menu(0, -2), BEYOND);
        promise = 5;
        due("house(0, 40)", x.house(0, 40), 12);
        due("house(0, 0)", x.house(0, 0), 40);
        due("house(1, 99999)", x.house(1, 99999), 0);
        due("house(1, 0)", x.house(1, 0), 99999);
        due("house(0, 41)", x.house(0, 41), BEYOND);
        due("house(0, -1)", x.house(0, -1), BEYOND);
        due("house(1, 100000)", x.house(1, 100000), BEYOND);
        due("house(1, -1)", x.house(1, -1), BEYOND);
        due("house(2, 0)", x.house(2, 0), BEYOND);
        due("house(-1, 0)", x.house(-1, 0), BEYOND);
        due("count(2)", x.count(2), 0);
    }

    private static void seats() {
        promise = 6;
        ScullerySweets x = new ScullerySweets();
        due("diner(70, 0)", x.diner(70, 0), BEYOND);
        due("diner(-1, 0)", x.diner(-1, 0), BEYOND);
        due("diner(0, 10)", x.diner(0, 10), BEYOND);
        due("diner(0, -1)", x.diner(0, -1), BEYOND);
        for (int i = 0; i < 8; i++) {
            due("diner(69, 9)", x.diner(69, 9), i);
            due("ofDiner(" + i + ", 3)", x.ofDiner(i, 3), i);
        }
        due("diner(0, 0)", x.diner(0, 0), FULL);
        due("diner(70, 0) when full", x.diner(70, 0), BEYOND);
        due("count(0)", x.count(0), 8);
    }

    private static void leavings() {
        promise = 7;
        ScullerySweets x = house(9, 9, 19, 9, 29, 9, 39, 0, 49, 1, 59, 8, 69, 9);
        x.dish(0, 1, 6);
        x.menu(5, 9);
        // COURSE 0: SWEET 0, FAT 6; COURSE 5: SWEET 9, FAT 3; an even DAY.
        int[][] due = {
            {0, 9, 9, 0, 0, 1, 4, 3}, {1, 9, 9, 1, 0, 0, 4, 4}, {2, 9, 9, 2, 0, 1, 4, 4},
            {3, 9, 0, 3, 0, 0, 1, 0}, {4, 9, 1, 4, 0, 0, 0, 0}, {5, 9, 8, 5, 0, 2, 3, 3},
            {6, 9, 9, 6, 0, 0, 4, 4}};
        for (int d = 0; d < due.length; d++) {
            for (int what = 0; what < 7; what++) {
                due("ofDiner(" + d + ", " + what + ")", x.ofDiner(d, what), due[d][what]);
            }
            due("ofDiner(" + d + ", 11)", x.ofDiner(d, 11), due[d][7]);
        }
        due("ofDiner(0, 12)", x.ofDiner(0, 12), BEYOND);
        due("ofDiner(0, -1)", x.ofDiner(0, -1), BEYOND);
        due("ofDiner(7, 0)", x.ofDiner(7, 0), BEYOND);
        due("ofDiner(-1, 0)", x.ofDiner(-1, 0), BEYOND);
        x.days(1);
        due("COLONEL mends in odd DAYS", x.ofDiner(1, 5), 1);
        due("GENERAL mends as COLONEL", x.ofDiner(4, 5), 1);
        due("DUCHESS with m above g in odd DAYS", x.ofDiner(5, 7), 4);
        x.change(5, 0, 9);
        due("DUCHESS with m not above g", x.ofDiner(5, 7), 3);
        x.become(6, 68);
        due("CADET of even m mends", x.ofDiner(6, 5), 1);
        x.change(3, 0, 1);
        due("SUBALTERN with s and g above 9", x.ofDiner(3, 11), 4);
        x.become(6, 69);
        x.change(6, 0, 1);
        due("CADET has a third of m more", x.ofDiner(6, 7), 3);
        // What a DINER leaves is not held ahead of the TEXT.
        textOf(x, 0, "l+1");
        x.change(4, 0, 0);
        due("GENERAL leaves -1", x.ofDiner(4, 6), 0);
        textOf(x, 0, "l-3");
        x.change(6, 0, 9);
        due("CADET leaves 7", x.ofDiner(6, 11), 4);
        textOf(x, 0, "l-1");
        due("SUBALTERN leaves 4", x.ofDiner(3, 11), 3);
        x.change(5, 0, 8);
        due("DUCHESS leaves 4", x.ofDiner(5, 6), 3);
        edges();
    }

    /** On either side of each number that the KINDS look at. */
    private static void edges() {
        ScullerySweets x = house(5, 2, 25, 2, 35, 4, 54, 4);
        x.dish(0, 1, 5);
        due("FAT 5", x.ofDiner(0, 6), 0);
        x.dish(0, 1, 6);
        due("FAT 6", x.ofDiner(0, 6), 1);
        due("SWEET 5", x.ofDiner(1, 11), 0);
        x.dish(5, 0, 6);
        due("SWEET 6", x.ofDiner(1, 11), 1);
        x.dish(5, 0, 5);
        due("s and g are 9", x.ofDiner(2, 11), 1);
        x.dish(5, 0, 6);
        due("s and g are 10", x.ofDiner(2, 11), 4);
        x.days(1);
        x.change(3, 0, 4);
        due("m is as g", x.ofDiner(3, 7), 1);
        x.change(3, 0, 3);
        due("m is above g", x.ofDiner(3, 7), 4);
        x.days(1);
        x.change(3, 0, 3);
        due("an even DAY", x.ofDiner(3, 7), 1);
    }

    private static void changes() {
        promise = 8;
        ScullerySweets x = house(14, 3, 25, 6);
        due("change(0, 0, 9)", x.change(0, 0, 9), 3);
        due("change(0, 0, 0)", x.change(0, 0, 0), 9);
        due("change(1, 1, 7)", x.change(1, 1, 7), 1);
        due("change(1, 1, 0)", x.change(1, 1, 0), 7);
        due("change(0, 2, 99)", x.change(0, 2, 99), 0);
        due("change(0, 2, 1)", x.change(0, 2, 1), 99);
        due("change(0, 0, 10)", x.change(0, 0, 10), BEYOND);
        due("change(0, 1, 8)", x.change(0, 1, 8), BEYOND);
        due("change(0, 2, 100)", x.change(0, 2, 100), BEYOND);
        due("change(0, 0, -1)", x.change(0, 0, -1), BEYOND);
        due("change(0, 1, -1)", x.change(0, 1, -1), BEYOND);
        due("change(0, 2, -1)", x.change(0, 2, -1), BEYOND);
        due("change(0, 3, 0)", x.change(0, 3, 0), BEYOND);
        due("change(0, -1, 0)", x.change(0, -1, 0), BEYOND);
        due("change(2, 0, 0)", x.change(2, 0, 0), BEYOND);
        due("change(-1, 0, 0)", x.change(-1, 0, 0), BEYOND);
        promise = 9;
        due("become(0, 69)", x.become(0, 69), 1);
        due("ofDiner(0, 0)", x.ofDiner(0, 0), 6);
        due("ofDiner(0, 1)", x.ofDiner(0, 1), 9);
        due("ofDiner(0, 4)", x.ofDiner(0, 4), 1);
        due("become(0, 0)", x.become(0, 0), 6);
        due("become(0, 70)", x.become(0, 70), BEYOND);
        due("become(0, -1)", x.become(0, -1), BEYOND);
        due("become(2, 0)", x.become(2, 0), BEYOND);
    }

    private static void kinds() {
        promise = 10;
        ScullerySweets x = house(1, 0);
        int[] above = {0, 1, 2, 3, 1, 2, 3};
        for (int kind = 0; kind < 7; kind++) {
            x.become(0, 10 * kind + kind);
            for (int asked = 0; asked < 7; asked++) {
                boolean is = asked == 0 || asked == kind || asked == above[kind];
                due("as(0, " + asked + ") of " + kind, x.as(0, asked), is ? kind : KIND);
            }
        }
        due("as(0, 7)", x.as(0, 7), BEYOND);
        due("as(0, -1)", x.as(0, -1), BEYOND);
        due("as(1, 0)", x.as(1, 0), BEYOND);
    }

    private static void tape() {
        promise = 11;
        ScullerySweets x = new ScullerySweets();
        due("feed(1, 0)", x.feed(1, 0), BEYOND);
        due("feed(1, 9)", x.feed(1, 9), BEYOND);
        for (int i = 1; i <= 6; i++) {
            due("feed(.., 8)", x.feed(0x2b2b2b2b2b2b2b2bL, 8), 8 * i);
        }
        due("feed(.., 3)", x.feed(0, 3), FULL);
        due("feed(.., 9) when near full", x.feed(0, 9), BEYOND);
        due("feed(.., 2)", x.feed(0, 2), 50);
        due("feed(.., 1)", x.feed(0, 1), FULL);
        due("count(7)", x.count(7), 50);
        due("text(2)", x.text(2), BEYOND);
        due("text(-1)", x.text(-1), BEYOND);
        due("count(7) behind BEYOND", x.count(7), 50);
        due("text(0)", x.text(0), -10);
        due("count(7) behind text", x.count(7), 0);
        due("the lowest byte first", textOf(x, 0, "9-s"), 1);
        due("law(0, 0, 7, 0)", x.law(0, 0, 7, 0), 2);
    }

    private static void faults() {
        promise = 12;
        ScullerySweets x = new ScullerySweets();
        String fifty = "1+1+1+1+1+1+1+1+1+1+1+1+1+1+1+1+1+1+1+1+1+1+1+1+11";
        String[] good = {"l", "0", "0000", "9999", "!!!!!l", "(((((l)))))", "!(!(!l))", "1<2|3=4&5>6", "(1<2)<3",
            "!l*!l/!l%!l", "(!l)+(!!!!l)", fifty, "!(((!l)))=(((((1)))))"};
        for (String text : good) {
            due("text of " + text, textOf(x, 0, text), 1);
        }
        String[] bad = {"", "l+", "f", "e", "12345", "1<2<3", "1=2>3", "l l", "()", "(l", "l)", "!!!!!!l", "((((((l",
            "!!!(((l", "!", "+l", "l-", "l*-1", "ls", "1l", "l1", "!(!(!(l)))", fifty.substring(0, 49) + "+",
            "(1<2<3)", "(1+2))", "l&&s", "\u00ec", "(((((12345", "1=(2=3)=4", "(l)(l)", "!!!!!l+(((((!1"};
        int[] fault = {0, 2, 0, 0, 4, 3, 3, 1, 1, 2, 1, 5, 5, 5, 1, 0, 2, 2, 1, 1, 1, 5, 50, 4, 5, 2, 0, 9, 7, 3, 12};
        for (int i = 0; i < bad.length; i++) {
            due("text of " + bad[i], textOf(x, 0, bad[i]), -10 - fault[i]);
            due("tape behind " + bad[i], x.count(7), 0);
        }
        due("the one ahead stays", x.law(0, 9, 0, 0), 1);
        due("l in TASTE", textOf(x, 1, "l"), -10);
        due("e in TASTE", textOf(x, 1, "e+s-g"), 1);
        for (int k = 1; k <= 5; k++) {
            due("a FAULT is no ERROR", x.told(k), 0);
        }
    }

    private static void laws() {
        promise = 13;
        ScullerySweets x = new ScullerySweets();
        due("law(0, 3, 0, 0)", x.law(0, 3, 0, 0), 3);
        due("law(0, 5, 0, 0)", x.law(0, 5, 0, 0), 4);
        due("law(0, -1, 0, 0)", x.law(0, -1, 0, 0), 0);
        due("law(1, 10, 0, 0)", x.law(1, 10, 0, 0), 9);
        due("law(1, 8, 0, 0)", x.law(1, 8, 0, 0), 8);
        due("law(2, 0, 0, 0)", x.law(2, 0, 0, 0), BEYOND);
        due("law(-1, 0, 0, 0)", x.law(-1, 0, 0, 0), BEYOND);
        textOf(x, 1, "1023-1020");
        due("digits", x.law(1, 0, 0, 0), 3);
        String[] texts = {"2+3*2", "9-3-2", "8/2/2", "7%4%2", "1/0+3", "1%0+3", "(0-7)/2+9", "(0-7)%4+9", "!0+!5+3",
            "2|0", "2&3", "0|0", "5&0", "1<2", "2<2", "2=2", "2>2", "3>2", "!2=0", "1|0&0", "1+1<3", "e*e=1", "e+e-2",
            "9/(e-e)+7", "7", "0|7", "(1<2)+(2>1)*3"};
        int[] due = {8, 4, 2, 1, 3, 3, 6, 6, 4, 1, 1, 0, 0, 1, 0, 1, 0, 1, 1, 1, 1, 1, 8, 7, 7, 1, 4};
        for (int i = 0; i < texts.length; i++) {
            textOf(x, 1, texts[i]);
            due("law of " + texts[i], x.law(1, i == 22 ? 5 : i == 21 ? 65535 * 65537 + 2 : 1, 2, 3), due[i]);
        }
        textOf(x, 1, "e-1>0");
        due("ints wrap", x.law(1, Integer.MIN_VALUE, 0, 0), 1);
        textOf(x, 1, "e/s=e");
        due("the least by -1", x.law(1, Integer.MIN_VALUE, -1, 0), 1);
        textOf(x, 1, "e%s");
        due("rest of the least by -1", x.law(1, Integer.MIN_VALUE, -1, 0), 0);
        textOf(x, 1, "e*100+s*10+g=123");
        due("NAMES in order", x.law(1, 1, 2, 3), 1);
        textOf(x, 0, "l*100+s*10+g=123");
        due("NAMES in order", x.law(0, 1, 2, 3), 1);
    }

    private static void daysGoBy() {
        promise = 14;
        // LEFT: 1 of each COURSE by each; ROOM 7: one eats 4 plates of the first, 3 of the other.
        ScullerySweets x = house(0, 3, 0, 3);
        x.house(0, 7);
        x.dish(5, 1, 3);
        due("days(1)", x.days(1), 5);
        due("KNOWN of 0", x.ofDiner(0, 4), 4);
        due("KNOWN of 1", x.ofDiner(1, 4), 3);
        due("GRIEF of 0", x.ofDiner(0, 2), 2);
        due("count(1)", x.count(1), 1);
        due("days(0)", x.days(0), BEYOND);
        due("days(61)", x.days(61), BEYOND);
        due("days(60)", x.days(60), 5);
        due("GRIEF is 0 at least", x.ofDiner(0, 2), 0);
        // A SUBALTERN that leaves its sweet grieves the one that loves it, and is held at 9.
        x = house(0, 8, 35, 6);
        x.change(0, 1, 1);
        x.change(1, 1, 0);
        x.days(1);
        due("GRIEF of the one that loves", x.ofDiner(0, 2), 9);
        due("GRIEF of a SUBALTERN", x.ofDiner(1, 2), 6);
        x.days(1);
        due("GRIEF is held", x.ofDiner(0, 2), 9);
        // Whom one LOVES may lack, or be itself: then it mends.
        x = house(35, 9, 5, 9);
        x.change(0, 1, 0);
        x.change(1, 1, 7);
        x.days(1);
        due("itself", x.ofDiner(0, 2), 9);
        due("one that lacks", x.ofDiner(1, 2), 8);
        // The sweet counts as it was LEFT at table, ahead of all mending and grieving.
        x = house(0, 9, 0, 5);
        x.dish(5, 1, 9);
        x.change(1, 1, 0);
        x.days(1);
        due("as LEFT at table", x.ofDiner(1, 2), 6);
        held();
        lastDay();
    }

    private static void held() {
        ScullerySweets x = house(0, 9);
        x.house(0, 0);
        x.house(1, 99990);
        due("PIGS are held", x.days(1), 99999);
        x = house(0, 9);
        x.change(0, 2, 95);
        x.house(0, 40);
        due("days(1)", x.days(1), 0);
        due("KNOWN is held", x.ofDiner(0, 4), 99);
        x = house(0, 9);
        textOf(x, 1, "e*e");
        x.house(0, 5);
        x.days(1);
        due("TASTE of 3 and of 2 quarters", x.ofDiner(0, 4), 13);
        due("PIGS", x.count(3), 13);
    }

    private static void lastDay() {
        ScullerySweets x = house(0, 9);
        for (int i = 0; i < 166; i++) {
            x.days(60);
        }
        due("count(1)", x.count(1), 9960);
        due("days(40)", x.days(40), STATE);
        due("days(61)", x.days(61), BEYOND);
        due("loose(40)", x.loose(40), STATE);
        due("loose(41)", x.loose(41), BEYOND);
        due("z stays", x.count(10), 1);
        x.days(38);
        due("loose(1) up to the last", x.loose(1), x.count(3));
        due("count(1)", x.count(1), 9999);
        due("days(1)", x.days(1), STATE);
        due("loose(1)", x.loose(1), STATE);
        due("thought goes beyond", x.then(60, 0, 0), 0);
        due("told(3)", x.told(3), 4);
    }

    private static void looseDays() {
        promise = 15;
        ScullerySweets x = house(0, 3);
        x.house(0, 0);
        int z = 1103515245 + 12345;
        int course = (z >>> 8) % 6;
        z = z * 1103515245 + 12345;
        int dish = (z >>> 8) % 16;
        due("loose(1)", x.loose(1), 6);
        due("count(10)", x.count(10), z);
        due("menu(course, -1)", x.menu(course, -1), dish);
        due("count(1)", x.count(1), 1);
        due("loose(0)", x.loose(0), BEYOND);
        due("loose(41)", x.loose(41), BEYOND);
        x.loose(40);
        due("count(1)", x.count(1), 41);
    }

    private static void thoughtDays() {
        promise = 16;
        ScullerySweets x = house(0, 9, 10, 4);
        x.house(0, 9);
        due("then(0, 0, 0)", x.then(0, 0, 0), 9);
        due("then(1, 0, 0)", x.then(1, 0, 0), 8);
        due("then(1, 0, 1)", x.then(1, 0, 1), 6);
        due("then(1, 1, 0)", x.then(1, 1, 0), 4);
        due("then(2, 1, 0)", x.then(2, 1, 0), 3);
        due("then(60, 0, 0)", x.then(60, 0, 0), 0);
        due("then(61, 0, 0)", x.then(61, 0, 0), BEYOND);
        due("then(-1, 0, 0)", x.then(-1, 0, 0), BEYOND);
        due("then(0, 2, 0)", x.then(0, 2, 0), BEYOND);
        due("then(0, 0, 2)", x.then(0, 0, 2), BEYOND);
        due("only thought", x.count(1), 0);
        promise = 17;
        // 6, then (2 of each plate) 5, 4, 4 of the first, by a ROOM of 9.
        due("out(0, 0)", x.out(0, 0), 0);
        due("out(0, 6)", x.out(0, 6), 1);
        due("out(0, 7)", x.out(0, 7), 2);
        due("out(0, 100)", x.out(0, 100), BEYOND);
        due("out(0, -1)", x.out(0, -1), BEYOND);
        due("out(2, 0)", x.out(2, 0), BEYOND);
        due("out(1, 99)", x.out(1, 99), NONE);
        x.change(1, 2, 99);
        due("out(1, 99)", x.out(1, 99), 0);
        ScullerySweets slow = house(30, 3);
        slow.house(0, 1);
        slow.change(0, 2, 39);
        due("at 60", slow.out(0, 99), 60);
        slow.change(0, 2, 38);
        due("not by 60", slow.out(0, 99), NONE);
    }

    private static void firstSweet() {
        promise = 18;
        ScullerySweets x = house(9, 9, 50, 9, 39, 3);
        due("first(0)", x.first(0), NONE);
        due("first(2)", x.first(2), BEYOND);
        due("first(-1)", x.first(-1), BEYOND);
        x.become(1, 58);
        due("behind 1, DUCHESS has GRIEF 7", x.first(0), 1);
        due("first(1)", x.first(1), 1);
        x.become(2, 29);
        x.dish(5, 0, 6);
        x.change(2, 0, 9);
        due("first(0)", x.first(0), 0);
        due("the least of 1 and 2", x.first(1), 1);
        // The last DAY that is asked for is the one that comes behind 60.
        x = house(0, 0);
        textOf(x, 0, "4*(g>8)");
        due("first(0)", x.first(0), NONE);
    }

    private static void rooms() {
        promise = 19;
        ScullerySweets x = house(0, 9, 0, 9);
        due("roomFor(1, 0, 0)", x.roomFor(1, 0, 0), 0);
        due("roomFor(1, 1, 0)", x.roomFor(1, 1, 0), NONE);
        due("roomFor(1, 1, 1)", x.roomFor(1, 1, 1), 4);
        due("roomFor(0, 1, 1)", x.roomFor(0, 1, 1), 1);
        due("roomFor(1, 18, 1)", x.roomFor(1, 18, 1), 36);
        due("roomFor(1, 19, 1)", x.roomFor(1, 19, 1), NONE);
        due("roomFor(1, 99, 30)", x.roomFor(1, 99, 30), NONE);
        due("roomFor(2, 0, 0)", x.roomFor(2, 0, 0), BEYOND);
        due("roomFor(0, 100, 0)", x.roomFor(0, 100, 0), BEYOND);
        due("roomFor(0, 0, 31)", x.roomFor(0, 0, 31), BEYOND);
        due("roomFor(0, 0, -1)", x.roomFor(0, 0, -1), BEYOND);
        due("roomFor(0, -1, 0)", x.roomFor(0, -1, 0), BEYOND);
        // More ROOM is not always more KNOWN.
        textOf(x, 1, "9*(e=2)");
        due("roomFor(0, 9, 1)", x.roomFor(0, 9, 1), 2);
        due("ROOM stays", x.count(2), 12);
        x = house(10, 9, 10, 9, 10, 9, 10, 9, 10, 9, 10, 9, 10, 9, 10, 9);
        due("all ROOM that there is", x.roomFor(1, 8, 1), 40);
        due("more than there is", x.roomFor(1, 9, 1), NONE);
    }

    private static void bests() {
        promise = 20;
        ScullerySweets x = house(20, 0);
        x.house(0, 40);
        // A LADY without GRIEF leaves 1 of what is sweet, and 1 of what is fat.
        due("best(0, 1, 0)", x.best(0, 1, 0), 6);
        due("best(0, 1, 1)", x.best(0, 1, 1), 1);
        x.dish(12, 1, 9);
        x.dish(12, 0, 6);
        due("best(0, 1, 0)", x.best(0, 1, 0), 12);
        due("best(0, 20, 1)", x.best(0, 20, 1), 40);
        due("best(0, 0, 0)", x.best(0, 0, 0), 0);
        due("best(0, 0, 1)", x.best(0, 0, 1), 0);
        due("best(6, 0, 0)", x.best(6, 0, 0), BEYOND);
        due("best(-1, 0, 0)", x.best(-1, 0, 0), BEYOND);
        due("best(0, 21, 0)", x.best(0, 21, 0), BEYOND);
        due("best(0, -1, 0)", x.best(0, -1, 0), BEYOND);
        due("best(0, 0, 2)", x.best(0, 0, 2), BEYOND);
        due("the MENU stays", x.menu(0, -1), 0);
        promise = 21;
        // She has ROOM for one plate: what is sweet had best come ahead, if sweet tastes.
        x = house(0, 9, 0, 9);
        x.house(0, 3);
        textOf(x, 1, "s");
        due("swap(1)", x.swap(1), 5);
        due("swap(0)", x.swap(0), -1);
        x.menu(0, 9);
        due("none makes it more", x.swap(1), -1);
        x.menu(0, 0);
        x.menu(3, 5);
        due("of several the least", x.swap(1), 3);
        x.menu(0, 9);
        x.menu(3, 3);
        x.house(0, 9);
        due("COURSES 1 and 5 (0 tastes most as it is)", x.swap(1), 15);
        due("20 is not BEYOND", Math.max(-1, x.swap(20)), x.swap(20));
        due("swap(-1)", x.swap(-1), BEYOND);
        due("swap(21)", x.swap(21), BEYOND);
        due("the MENU stays", x.menu(3, -1), 3);
    }

    private static void whoseAndLoved() {
        promise = 22;
        ScullerySweets x = house(0, 5);
        due("whose(0, 0, 0)", x.whose(0, 0, 0), NONE);
        due("whose(4, 0, 0)", x.whose(4, 0, 0), BEYOND);
        due("whose(-1, 0, 0)", x.whose(-1, 0, 0), BEYOND);
        due("whose(0, 1, 0)", x.whose(0, 1, 0), BEYOND);
        due("whose(0, 0, 2)", x.whose(0, 0, 2), BEYOND);
        x.sheet(0, 8, 0);
        due("whose, nothing told", x.whose(0, 0, 0), 70);
        due("whose, nothing told", x.whose(0, 0, 1), 0);
        // COURSE 0 is neither sweet nor fat: 3 LEFT by GRIEF 9; COLONEL 6, 7; GENERAL 8, 9.
        sheetOf(x, 0, 3);
        due("whose(0, 0, 0)", x.whose(0, 0, 0), 9);
        due("whose(0, 0, 1)", x.whose(0, 0, 1), 9);
        sheetOf(x, 0, 3, 3, 3, 3, 3, 3);
        due("whose(0, 0, 0)", x.whose(0, 0, 0), 7);
        sheetOf(x, 0, 4, 4, 4, 4, 4, 4);
        due("COLONEL alone", x.whose(0, 0, 0), 2);
        due("COLONEL with 8", x.whose(0, 0, 1), 18);
        sheetOf(x, 0, 5);
        due("whose(0, 0, 0)", x.whose(0, 0, 0), 0);
        due("whose(0, 0, 1)", x.whose(0, 0, 1), NONE);
        sheetOf(x, 0, 0, 0, 0, 0, 0, 0, 0);
        due("there is no COURSE 6", x.whose(0, 0, 0), 0);
        due("only thought", x.ofDiner(0, 2), 5);
        due("only thought", x.ofDiner(0, 0), 0);
        promise = 23;
        x = house(0, 5, 35, 9, 0, 0, 36, 9);
        sheetOf(x, 1, 6, 7, 8, 9, 9);
        due("loved(1, 0)", x.loved(1, 0), 10);
        sheetOf(x, 1, 4, 3, 2);
        due("itself, and ones that lack", x.loved(1, 0), 245);
        sheetOf(x, 1, 6, 6);
        due("loved(1, 0)", x.loved(1, 0), 0);
        x.sheet(1, 8, 0);
        due("loved, nothing told", x.loved(1, 0), 255);
        due("loved(2, 0)", x.loved(2, 0), NONE);
        due("loved(4, 0)", x.loved(4, 0), BEYOND);
        due("loved(2, 4)", x.loved(2, 4), BEYOND);
        due("only thought", x.ofDiner(0, 3), 0);
    }

    private static void plates() {
        promise = 24;
        ScullerySweets x = house(0, 6, 10, 9);
        // Plates of 2 and of 4 quarters, six of each; TASTE 3 of the lesser, 5 of the other.
        textOf(x, 1, "e+1");
        due("pack(0)", x.pack(0), 0);
        due("pack(1)", x.pack(1), 0);
        due("pack(4)", x.pack(4), 6);
        due("pack(12)", x.pack(12), 18);
        due("pack(15)", x.pack(15), 20);
        due("pack(18)", x.pack(18), 25);
        due("pack(40)", x.pack(40), 48);
        textOf(x, 0, "l-2");
        due("only of what is LEFT", x.pack(1), 0);
        due("only of what is LEFT", x.pack(40), 18);
        textOf(x, 0, "l");
        due("pack(41)", x.pack(41), BEYOND);
        due("pack(-1)", x.pack(-1), BEYOND);
        promise = 25;
        due("few(0)", x.few(0), 0);
        due("few(5)", x.few(5), 1);
        due("few(6)", x.few(6), 2);
        due("few(30)", x.few(30), 6);
        due("few(31)", x.few(31), 7);
        due("few(48)", x.few(48), 12);
        due("few(49)", x.few(49), NONE);
        due("few(999)", x.few(999), NONE);
        due("few(1000)", x.few(1000), BEYOND);
        due("few(-1)", x.few(-1), BEYOND);
        textOf(x, 0, "l-2");
        due("only of what is LEFT", x.few(18), 6);
        due("only of what is LEFT", x.few(19), NONE);
    }

    private static void brokenAndSwill() {
        promise = 26;
        ScullerySweets x = house(0, 9, 30, 9, 0, 8);
        x.change(2, 1, 1);
        due("broken(0)", x.broken(0), 3);
        x.menu(5, 9);
        due("broken(1)", x.broken(1), 6);
        due("broken(60)", x.broken(60), 6);
        due("broken(61)", x.broken(61), BEYOND);
        due("broken(-1)", x.broken(-1), BEYOND);
        promise = 27;
        x = house(30, 9);
        x.house(0, 0);
        x.menu(1, 0);
        x.menu(2, 0);
        x.menu(3, 0);
        x.menu(4, 0);
        x.menu(5, 0);
        x.house(1, 10);
        due("swill(0)", x.swill(0), 0);
        due("swill(2)", x.swill(2), 36);
        due("swill(60)", x.swill(60), 1080);
        due("swill(61)", x.swill(61), BEYOND);
        due("swill(-1)", x.swill(-1), BEYOND);
        x.house(1, 99990);
        due("PIGS are held", x.swill(2), 9);
        due("only thought", x.count(3), 99990);
        promise = 28;
        x = house(0, 5, 39, 1);
        due("cheer(0, 0)", x.cheer(0, 0), 2);
        due("cheer(0, 6)", x.cheer(0, 6), 5);
        due("cheer(0, 24)", x.cheer(0, 24), 9);
        due("cheer(0, 25)", x.cheer(0, 25), BEYOND);
        due("cheer(0, -1)", x.cheer(0, -1), BEYOND);
        due("cheer(2, 0)", x.cheer(2, 0), BEYOND);
        textOf(x, 0, "1+(g<9)");
        due("the most, though less GRIEF leaves more", x.cheer(0, 6), 9);
        due("cheer(0, 5)", x.cheer(0, 5), NONE);
        due("only thought", x.ofDiner(0, 2), 5);
    }

    private static void odds() {
        promise = 29;
        ScullerySweets x = house(0, 3);
        // 1 of each COURSE: KNOWN behind a DAY is 0, 4, then 6.
        due("above", x.odds(0, 1, 5, 0), 4);
        due("below", x.odds(0, 1, 5, 1), 5);
        due("above", x.odds(0, 1, 1, 0), 9);
        due("below", x.odds(0, 1, 1, 1), 10);
        due("all", x.odds(0, 1, 0, 0), 1);
        due("all", x.odds(0, 1, 0, 1), 1);
        due("none", x.odds(0, 1, 7, 0), 0);
        due("none", x.odds(0, 1, 7, 1), 1);
        // 2 of each COURSE: KNOWN by ROOM 0, 4, 8, then 12.
        x.change(0, 0, 6);
        due("ROOM 8", x.odds(0, 1, 8, 0), 4);
        due("ROOM 12", x.odds(0, 1, 9, 0), 7);
        due("ROOM 12", x.odds(0, 1, 12, 1), 10);
        due("odds(.., 30, ..)", x.odds(0, 30, 0, 1), 1);
        due("odds(1, ..)", x.odds(1, 0, 0, 0), BEYOND);
        due("odds(.., 31, ..)", x.odds(0, 31, 0, 0), BEYOND);
        due("odds(.., 100, ..)", x.odds(0, 0, 100, 0), BEYOND);
        due("odds(.., 2)", x.odds(0, 0, 0, 2), BEYOND);
        due("odds(.., -1)", x.odds(0, 0, 0, -1), BEYOND);
    }

    private static void voices() {
        promise = 30;
        ScullerySweets x = house(0, 0, 3, 0);
        due("seed(-1000000001)", x.seed(-1000000001), 1);
        due("no ERROR", x.seed(7), -1000000001);
        due("told(1)", x.told(1), 0);
        due("count(10)", x.count(10), 7);
        promise = 31;
        // n is 1, m is 3.
        int[][] due = {{6, 12, 2, 14}, {18, 36, 2, 38}, {6, 14, 2, 12}, {6, 12, -2, -14}, {18, 36, 2, 29},
            {6, 16, 2, 18}, {6, 12, -1, 25}};
        int[][] began = {{13, 11, 10, 12}, {13, 11, 20, 10, 12}, {13, 30, 11, 10, 12, 12}, {13, 11, 10, 40, 12},
            {50, 13, 11, 20, 10, 12, 20, 10}, {13, 60, 30, 11, 10, 12, 12}, {71, 11, 10, 13, 11, 10, 70, 40, 12}};
        for (int kind = 0; kind < 7; kind++) {
            x.become(1, 10 * kind + 3);
            for (int act = 0; act < 4; act++) {
                promise = 31;
                due("voice of " + kind + " by " + act, x.voice(1, act, 5), due[kind][act]);
            }
            promise = 32;
            for (int i = 0; i < began[kind].length; i++) {
                due("trace(" + i + ") of " + kind, x.trace(i), began[kind][i]);
            }
            due("trace's end", x.trace(began[kind].length), NONE);
            due("count(9)", x.count(9), began[kind].length);
        }
        promise = 31;
        due("voice(2, 0, 0)", x.voice(2, 0, 0), BEYOND);
        due("voice(0, 4, 0)", x.voice(0, 4, 0), BEYOND);
        due("voice(0, -1, 0)", x.voice(0, -1, 0), BEYOND);
        due("voice that goes round", x.voice(1, 0, Integer.MAX_VALUE), Integer.MIN_VALUE);
        promise = 32;
        due("trace(-1)", x.trace(-1), NONE);
        due("trace(0)", x.trace(0), 10);
        x.voice(9, 0, 0);
        due("an ERROR leaves THE TRACE", x.trace(0), 10);
    }

    private static void sheets() {
        promise = 33;
        ScullerySweets x = house(0, 0, 0, 1, 0, 0, 0, 255 % 10);
        due("sheet(0, 8, 40)", x.sheet(0, 8, 40), 1);
        due("sheet(0, 8, 41)", x.sheet(0, 8, 41), BEYOND);
        due("sheet(0, 8, -1)", x.sheet(0, 8, -1), STATE);
        due("sheet(4, 8, -1)", x.sheet(4, 8, -1), BEYOND);
        due("sheet(-1, 8, 0)", x.sheet(-1, 8, 0), BEYOND);
        due("sheet(0, 9, -1)", x.sheet(0, 9, -1), BEYOND);
        due("sheet(3, 0, -1)", x.sheet(3, 0, -1), 1);
        due("sheet(3, 0, 99)", x.sheet(3, 0, 99), 1);
        due("put(3, 0, 0)", x.put(3, 0, 0), NONE);
        promise = 34;
        due("put(0, 39, 1)", x.put(0, 39, 1), 1);
        due("put(0, 40, 1)", x.put(0, 40, 1), BEYOND);
        due("put(0, -1, 1)", x.put(0, -1, 1), BEYOND);
        due("put(4, 0, 1)", x.put(4, 0, 1), BEYOND);
        due("put(2, -1, 1)", x.put(2, -1, 1), NONE);
        x.sheet(0, 8, 4);
        x.put(0, 0, 256);
        x.put(0, 1, 257);
        x.put(0, 2, -256);
        x.put(0, 3, 0x7fffff05);
        due("lowest 8 bits", x.judge(0), -1);
        x.sheet(1, 16, 4);
        x.put(1, 0, 65536);
        x.put(1, 1, 65537);
        x.put(1, 2, 256);
        due("lowest 16 bits", x.judge(1), 2);
        x.sheet(2, 32, 4);
        x.put(2, 0, 65536);
        due("all 32 bits", x.judge(2), 0);
        x.sheet(2, 32, 4);
        due("all 0 anew", x.judge(2), 1);
    }

    private static void moves() {
        promise = 35;
        ScullerySweets x = house(0, 1, 0, 1, 0, 2, 0, 3);
        sheetOf(x, 0, 1, 2, 3, 4);
        due("as they all were", x.move(0, 0, 0, 1, 3), 3);
        due("judge(0)", x.judge(0), -1);
        sheetOf(x, 1, 9, 1, 1, 2);
        due("move(1, 1, 1, 0, 3)", x.move(1, 1, 1, 0, 3), 3);
        x.put(1, 2, 2);
        x.put(1, 3, 3);
        due("judge(1)", x.judge(1), -1);
        due("move(0, 4, 1, 4, 0)", x.move(0, 4, 1, 4, 0), 0);
        due("move(0, 2, 1, 0, 3)", x.move(0, 2, 1, 0, 3), BEYOND);
        due("move(0, 0, 1, 2, 3)", x.move(0, 0, 1, 2, 3), BEYOND);
        due("move(0, -1, 1, 0, 1)", x.move(0, -1, 1, 0, 1), BEYOND);
        due("move(0, 0, 1, -1, 1)", x.move(0, 0, 1, -1, 1), BEYOND);
        due("move(0, 0, 1, 0, -1)", x.move(0, 0, 1, 0, -1), BEYOND);
        due("move, far too many", x.move(0, 1, 1, 1, Integer.MAX_VALUE), BEYOND);
        due("move, far off", x.move(0, Integer.MAX_VALUE, 1, 1, 1), BEYOND);
        x.sheet(2, 8, 4);
        due("unlike bits", x.move(0, -1, 2, 0, 1), KIND);
        due("missing", x.move(0, 0, 3, 0, 1), NONE);
        due("missing", x.move(3, 0, 0, 0, 1), NONE);
        due("no such", x.move(3, 0, 4, 0, 1), BEYOND);
        due("no such", x.move(-1, 0, 3, 0, 1), BEYOND);
    }

    private static void menusAndJudge() {
        promise = 36;
        ScullerySweets x = house(0, 3, 0, 4);
        sheetOf(x, 0, 15, 14, 13, 12, 11, 10, 9);
        due("no COURSE 6", x.menus(0), 6);
        due("menu(5, -1)", x.menu(5, -1), 10);
        sheetOf(x, 0, 1, 2, -1, 4);
        due("menus(0)", x.menus(0), 2);
        due("menu(1, -1)", x.menu(1, -1), 2);
        due("menu(2, -1)", x.menu(2, -1), 13);
        sheetOf(x, 0);
        due("menus(0)", x.menus(0), 0);
        due("menus(1)", x.menus(1), NONE);
        due("menus(4)", x.menus(4), BEYOND);
        due("menus(-1)", x.menus(-1), BEYOND);
        promise = 37;
        due("judge(0)", x.judge(0), 0);
        sheetOf(x, 0, 3);
        due("one lacks", x.judge(0), 1);
        sheetOf(x, 0, 3, 4);
        due("all are", x.judge(0), -1);
        sheetOf(x, 0, 3, 4, 0);
        due("one too many", x.judge(0), 2);
        sheetOf(x, 0, 3, 5, 0);
        due("another GRIEF", x.judge(0), 1);
        due("judge(1)", x.judge(1), NONE);
        due("judge(4)", x.judge(4), BEYOND);
        due("judge(-1)", x.judge(-1), BEYOND);
        ScullerySweets empty = new ScullerySweets();
        empty.sheet(0, 8, 0);
        due("none, and none told", empty.judge(0), -1);
    }

    private static void images() {
        promise = 38;
        ScullerySweets x = house(14, 3);
        x.days(2);
        x.dish(3, 0, 9);
        x.dish(3, 1, 8);
        x.menu(1, 7);
        x.house(0, 20);
        x.house(1, 77);
        x.change(0, 1, 4);
        x.change(0, 2, 55);
        textOf(x, 0, "2");
        textOf(x, 1, "7");
        feedAll(x, "abc");
        x.tell(5);
        x.seed(99);
        due("image()", x.image(), 1);
        x.days(3);
        x.dish(3, 0, 1);
        x.dish(3, 1, 1);
        x.menu(1, 1);
        x.house(0, 3);
        x.diner(0, 0);
        x.become(0, 22);
        x.change(0, 0, 9);
        x.change(0, 1, 0);
        x.check();
        x.text(0);
        textOf(x, 0, "3");
        textOf(x, 1, "1");
        x.seed(5);
        x.voice(0, 0, 0);
        sheetOf(x, 2, 3, 3, 3);
        x.told(0);
        promise = 39;
        due("restore()", x.restore(), 2);
        int[] counts = {1, 2, 20, 77, 2, 55, 66, 3, 1, 1, 99};
        for (int what = 0; what < counts.length; what++) {
            due("count(" + what + ")", x.count(what), counts[what]);
        }
        int[] diner = {1, 4, 2, 4, 55, 0, 2};
        for (int what = 0; what < diner.length; what++) {
            due("ofDiner(0, " + what + ")", x.ofDiner(0, what), diner[what]);
        }
        due("ofDish(3, 1)", x.ofDish(3, 1), 8);
        due("menu(1, -1)", x.menu(1, -1), 7);
        due("law(1, ..)", x.law(1, 0, 0, 0), 7);
        due("then(1, 0, 1)", x.then(1, 0, 1), 97);
        due("THE TAPE", x.text(1), -10);
        due("SHEETS stay", x.judge(2), 0);
        due("what told() tells stays", x.told(1), 1);
        x.days(1);
        due("the IMAGE stays", x.restore(), 2);
        promise = 38;
        due("how often stays", x.image(), 2);
    }

    private static void tells() {
        promise = 40;
        ScullerySweets x = house(30, 3);
        x.menu(5, 0);
        x.house(0, 2);
        // 6 LEFT a DAY, of which she eats 2.
        for (int i = 1; i <= 20; i++) {
            due("tell(" + 4 * i + ")", x.tell(4 * i), i);
        }
        due("tell, one too many", x.tell(84), FULL);
        due("count(8)", x.count(8), 20);
        promise = 41;
        due("check()", x.check(), 0);
        due("none wait then", x.count(8), 0);
        due("check() of none", x.check(), 0);
        x.tell(4);
        x.tell(8);
        x.tell(13);
        due("check()", x.check(), 3);
        due("none wait then", x.count(8), 0);
        due("only thought", x.count(1), 0);
        promise = 42;
        due("count(11)", x.count(11), BEYOND);
        due("count(-1)", x.count(-1), BEYOND);
        due("count(4)", x.count(4), 3);
        promise = 43;
        due("told(0)", x.told(0), BEYOND);
        due("told(6)", x.told(6), BEYOND);
        due("told(1)", x.told(1), 4);
        due("told(4)", x.told(4), 1);
        x.trace(0);
        due("told(2)", x.told(2), 1);
        x.as(0, 1);
        due("told(5)", x.told(5), 1);
        x.sheet(0, 8, -1);
        due("told(3)", x.told(3), 1);
    }

    public static void main(String[] args) {
        newObject();
        dishes();
        seats();
        leavings();
        changes();
        kinds();
        tape();
        faults();
        laws();
        daysGoBy();
        looseDays();
        thoughtDays();
        firstSweet();
        rooms();
        bests();
        whoseAndLoved();
        plates();
        brokenAndSwill();
        odds();
        voices();
        sheets();
        moves();
        menusAndJudge();
        images();
        tells();
        System.out.println(asked + " answers asked, " + wrong + " not as due");
        if (wrong != 0) {
            System.exit(1);
        }
    }
}

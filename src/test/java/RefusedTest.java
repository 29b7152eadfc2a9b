import java.util.ArrayList;
import java.util.List;

/**
 * "One that answers an ERROR changes nothing but what told() tells", and what is only thought changes nothing at all.
 * Each such call is made in a house that was made ready; then all that the house can be asked is asked, and must be as
 * in a house that was made ready alike, without that call.
 */
public final class RefusedTest extends Edges {
    private static final int NEW = 0;
    private static final int FILLED = 1;
    private static final int LATE = 2;
    private static final int LOOKS = 4;
    private static final int[] ANY = {MIN, MIN + 1, -1, 0, 1, 3, 8, MAX};

    private static final String[] BEYOND_WITHOUT_DINERS = {
        "dish(-1, 0, 0)", "dish(16, 0, 0)", "dish(0, -1, 0)", "dish(0, 2, 0)", "dish(0, 0, -1)", "dish(0, 0, 10)",
        "dish(0, 1, -1)", "dish(0, 1, 10)", "dish(MIN, 0, 0)", "dish(MAX, 0, 0)", "dish(0, MAX, 0)", "dish(0, 0, MAX)",
        "ofDish(-1, 0)", "ofDish(16, 0)", "ofDish(0, -1)", "ofDish(0, 3)", "ofDish(MIN, MIN)", "ofDish(MAX, 2)",
        "menu(-1, 0)", "menu(6, 0)", "menu(0, -2)", "menu(0, 16)", "menu(6, -1)", "menu(MAX, 0)", "menu(0, MIN)",
        "house(-1, 0)", "house(2, 0)", "house(0, -1)", "house(0, 41)", "house(1, -1)", "house(1, 100000)",
        "diner(-1, 0)", "diner(70, 0)", "diner(0, -1)", "diner(0, 10)", "diner(MIN, 0)", "diner(MAX, 0)",
        "feed(49, 0)", "feed(49, 9)", "feed(49, -1)", "feed(49, MIN)", "feed(49, MAX)",
        "text(-1)", "text(2)", "text(MIN)", "text(MAX)", "law(-1, 1, 1, 1)", "law(2, 1, 1, 1)", "law(MIN, 1, 1, 1)",
        "days(0)", "days(-1)", "days(61)", "days(MIN)", "days(MAX)",
        "loose(0)", "loose(-1)", "loose(41)", "loose(MIN)", "loose(MAX)",
        "then(0, 8, 0)", "then(0, -1, 0)", "then(0, MAX, 0)", "then(0, MIN, 0)", "out(8, 0)", "out(-1, 0)",
        "first(-1)", "first(2)", "first(MIN)", "first(MAX)", "roomFor(8, 0, 0)", "roomFor(-1, 0, 0)",
        "best(-1, 0, 0)", "best(6, 0, 0)", "best(0, -1, 0)", "best(0, 21, 0)", "best(0, 0, -1)", "best(0, 0, 2)",
        "swap(-1)", "swap(21)", "swap(MIN)", "swap(MAX)", "whose(4, 0, 0)", "whose(-1, 0, 0)", "whose(0, 8, 0)",
        "loved(4, 0)", "loved(-1, 0)", "loved(0, 8)", "loved(0, -1)",
        "pack(-1)", "pack(41)", "pack(MIN)", "pack(MAX)", "few(-1)", "few(1000)", "few(MIN)", "few(MAX)",
        "broken(-1)", "broken(61)", "swill(-1)", "swill(61)", "cheer(8, 0)", "cheer(-1, 0)",
        "odds(8, 0, 0, 0)", "odds(-1, 0, 0, 0)", "voice(8, 0, 0)", "voice(-1, 0, 0)", "ofDiner(8, 0)",
        "ofDiner(-1, 0)", "change(8, 0, 0)", "change(-1, 0, 0)", "become(8, 0)", "become(-1, 0)", "as(8, 0)",
        "as(-1, 0)", "sheet(-1, 8, 1)", "sheet(4, 8, 1)", "sheet(0, 7, 1)", "sheet(0, -8, 1)", "sheet(0, 64, -1)",
        "sheet(0, 8, 41)", "sheet(3, 32, MAX)", "sheet(4, 0, 0)", "put(-1, 0, 9)", "put(4, 0, 9)", "put(MAX, 0, 9)",
        "move(-1, 0, 0, 0, 1)", "move(0, 0, 4, 0, 1)", "move(4, 0, 3, 0, 1)", "move(3, 0, MIN, 0, 1)",
        "menus(-1)", "menus(4)", "judge(-1)", "judge(4)", "count(-1)", "count(11)", "count(MIN)", "count(MAX)",
        "told(0)", "told(6)", "told(MIN)", "told(MAX)"};

    private static final String[] BEYOND_IN_FILLED = {
        "ofDiner(0, -1)", "ofDiner(7, 12)", "ofDiner(0, MAX)", "change(0, -1, 0)", "change(0, 3, 0)",
        "change(0, 0, -1)", "change(7, 0, 10)", "change(0, 1, -1)", "change(7, 1, 8)", "change(0, 2, -1)",
        "change(7, 2, 100)", "become(0, -1)", "become(7, 70)", "become(0, MAX)", "as(0, -1)", "as(7, 7)", "as(0, MIN)",
        "then(-1, 0, 0)", "then(61, 0, 0)", "then(0, 0, -1)", "then(0, 0, 2)", "then(MAX, 7, 0)",
        "out(0, -1)", "out(0, 100)", "out(7, MAX)", "roomFor(0, -1, 0)", "roomFor(0, 100, 0)", "roomFor(0, 0, -1)",
        "roomFor(0, 0, 31)", "roomFor(7, 0, MAX)", "whose(0, 0, -1)", "whose(0, 0, 2)", "whose(3, 0, 2)",
        "whose(3, 8, 0)", "loved(3, 8)", "cheer(0, -1)", "cheer(0, 25)", "cheer(7, MAX)", "odds(0, -1, 0, 0)",
        "odds(0, 31, 0, 0)", "odds(0, 0, -1, 0)", "odds(0, 0, 100, 0)", "odds(0, 0, 0, -1)", "odds(0, 0, 0, 2)",
        "voice(0, -1, 0)", "voice(7, 4, 0)", "voice(0, MAX, 0)", "diner(70, 0)", "diner(0, 10)",
        "put(0, -1, 9)", "put(0, 7, 9)", "put(0, MAX, 9)", "put(2, 0, 9)", "move(0, -1, 2, 0, 1)",
        "move(0, 0, 2, 0, 1)", "move(0, 0, 0, 1, 7)", "move(0, 1, 0, 0, 7)", "move(0, 0, 0, 0, -1)",
        "move(0, 0, 0, 0, 8)", "move(0, 0, 0, -1, 1)", "move(0, 8, 0, 0, 0)", "move(0, 1, 0, 1, MAX)"};

    private static final String[] NONE_IN_FILLED = {
        "out(0, 99)", "first(0)", "first(1)", "roomFor(7, 99, 1)", "whose(3, 0, 0)", "whose(3, 0, 1)", "whose(0, 0, 1)",
        "loved(3, 0)", "few(999)", "cheer(6, 0)", "trace(-1)", "trace(9)", "trace(40)", "trace(MIN)", "trace(MAX)",
        "put(3, 0, 9)", "put(3, -1, 9)", "move(3, 0, 0, 0, 1)", "move(0, 0, 3, 0, 1)", "move(3, -1, 3, 0, 1)",
        "menus(3)", "judge(3)"};

    private static final String[] THOUGHT_IN_FILLED = {
        "ofDish(15, 2)", "menu(5, -1)", "ofDiner(7, 11)", "as(0, 0)", "law(0, 9, 9, 9)", "law(1, MIN, MAX, 0)",
        "then(60, 7, 0)", "then(60, 0, 1)", "out(1, 0)", "out(5, 7)", "roomFor(0, 5, 30)", "best(0, 20, 0)",
        "best(5, 20, 1)", "swap(20)", "whose(0, 0, 0)", "whose(2, 7, 1)", "loved(0, 0)", "loved(2, 7)", "pack(0)",
        "pack(40)", "few(0)", "few(40)", "broken(60)", "swill(60)", "cheer(0, 24)", "cheer(5, 6)", "odds(0, 30, 50, 0)",
        "odds(7, 30, 99, 1)", "trace(0)", "move(0, 0, 0, 0, 7)", "move(2, 0, 2, 0, 0)", "judge(0)", "judge(2)",
        "count(0)", "count(10)", "told(1)", "told(5)"};

    private void makeReady(int house) {
        if (house == NEW) {
            return;
        }
        diners(1, 9, 12, 8, 23, 7, 34, 6, 45, 5, 56, 4, 69, 3, 8, 2);
        does("house(0, 3)", "house(1, 70)", "dish(3, 0, 8)", "dish(3, 1, 9)", "menu(1, 3)", "change(0, 1, 4)");
        if (house == LATE) {
            daysTo(9999);
            return;
        }
        does("change(3, 2, 44)", "seed(77)", "image()", "loose(3)", "image()", "menu(0, 11)", "loose(2)");
        text(0, "l/2");
        text(1, "e+1");
        tape("e+1+1+1+1+1+1+1+1+1+1+1+1+1+1+1+1+1+1+1+1+1+1");
        numbers(0, 8, 5, 4, 3, 2, 1, 0, 9);
        numbers(1, 16, 6, 7, 8);
        does("sheet(2, 8, 0)", "voice(6, 3, 5)");
        for (int i = 1; i <= 20; i++) {
            does("tell(" + (call("count(3)") + call("swill(" + i + ")")) + ")");
        }
    }

    private void look(List<Integer> seen, String form, int from, int to) {
        for (int i = from; i <= to; i++) {
            seen.add(call(form.replace("?", Integer.toString(i))));
        }
    }

    private void lookAtHouse(List<Integer> seen) {
        look(seen, "count(?)", 0, 10);
        for (int dish = 0; dish < 16; dish++) {
            look(seen, "ofDish(" + dish + ", ?)", 0, 2);
        }
        for (int diner = 0; diner < 8; diner++) {
            look(seen, "ofDiner(" + diner + ", ?)", 0, 11);
        }
        look(seen, "trace(?)", 0, 10);
    }

    private void lookAtTexts(List<Integer> seen) {
        for (int use = 0; use <= 1; use++) {
            look(seen, "law(" + use + ", ?, 0, 0)", -1, 9);
            look(seen, "law(" + use + ", 0, ?, 0)", -1, 9);
            look(seen, "law(" + use + ", 0, 0, ?)", -1, 9);
        }
        seen.add(call("check()"));
        // What stands on THE TAPE: it must still be the TEXT that it was, up to its last byte.
        seen.add(call("feed(12587, 2)"));
        seen.add(call("text(1)"));
        look(seen, "law(1, ?, 0, 0)", -30, 9);
    }

    private void lookAtSheets(List<Integer> seen) {
        for (int sheet = 0; sheet < 4; sheet++) {
            look(seen, "move(" + sheet + ", 0, ?, 0, 0)", 0, 3);
            for (int i = 0; i <= 8; i++) {
                seen.add(call("move(" + sheet + ", " + i + ", " + sheet + ", " + i + ", 1)"));
            }
            for (int i = 0; i <= 1; i++) {
                seen.add(call("menus(" + sheet + ")"));
                look(seen, "ofDish(?, 2)", 0, 15);
                seen.add(call("move(" + sheet + ", 1, " + sheet + ", 0, 6)"));
            }
        }
    }

    private void lookAtImage(List<Integer> seen) {
        seen.add(call("restore()"));
        lookAtHouse(seen);
        look(seen, "law(0, ?, 0, 0)", 0, 4);
        seen.add(call("image()"));
    }

    private List<Integer> seen(int look) {
        List<Integer> seen = new ArrayList<>();
        look(seen, "told(?)", 1, 5);
        if (look == 0) {
            lookAtHouse(seen);
        } else if (look == 1) {
            lookAtTexts(seen);
        } else if (look == 2) {
            lookAtSheets(seen);
        } else {
            lookAtImage(seen);
        }
        return seen;
    }

    /** A call that is refused with this ERROR, or (error 0) one that is not, and leaves all as it was. */
    private void leavesAll(int promise, int house, int error, String... calls) {
        for (int look = 0; look < LOOKS; look++) {
            sentence(promise, "what is refused or only thought changes nothing, house " + house + ", look " + look);
            makeReady(house);
            List<Integer> before = seen(look);
            for (String words : calls) {
                sentence(promise, words + " changes nothing, house " + house + ", look " + look);
                makeReady(house);
                if (error == 0) {
                    does(words);
                } else {
                    due(words, error);
                }
                List<Integer> after = seen(look);
                List<Integer> want = new ArrayList<>(before);
                if (error != 0) {
                    int k = -1000000000 - error;
                    want.set(k - 1, want.get(k - 1) + 1);
                }
                if (!after.equals(want)) {
                    wrong("it was " + want + ", is " + after);
                }
            }
        }
    }

    /** The call with this number among all calls of this form whose numbers come from ANY. */
    private static String anyCall(String name, int parameters, int number) {
        StringBuilder words = new StringBuilder(name).append('(');
        int rest = number;
        for (int i = 0; i < parameters; i++) {
            words.append(i == 0 ? "" : ", ").append(ANY[rest % ANY.length]);
            rest /= ANY.length;
        }
        return words.append(')').toString();
    }

    private void neverThrows(int promise, String name, int parameters) {
        int forms = 1;
        for (int i = 0; i < parameters; i++) {
            forms *= ANY.length;
        }
        for (int house = NEW; house <= FILLED; house++) {
            for (int number = 0; number < forms; number++) {
                if (number % 250 == 0) {
                    sentence(promise, name + " never throws, house " + house);
                    makeReady(house);
                }
                // An exception is told as wrong by call itself.
                call(anyCall(name, parameters, number));
            }
        }
    }

    private void neverThrows() {
        String[] byParameters = {"image restore check", "text days loose first swap pack few broken swill seed trace menus"
            + " judge tell count told", "ofDish menu house diner ofDiner become as feed out loved cheer",
            "dish change then roomFor best whose voice sheet put", "law odds", "move"};
        for (int parameters = 0; parameters < byParameters.length; parameters++) {
            for (String name : byParameters[parameters].split(" ")) {
                neverThrows(43, name, parameters);
            }
        }
    }

    public static void main(String[] args) {
        RefusedTest t = new RefusedTest();
        t.leavesAll(43, NEW, BEYOND, BEYOND_WITHOUT_DINERS);
        t.leavesAll(43, FILLED, BEYOND, BEYOND_WITHOUT_DINERS);
        t.leavesAll(43, FILLED, BEYOND, BEYOND_IN_FILLED);
        t.leavesAll(43, FILLED, NONE, NONE_IN_FILLED);
        t.leavesAll(39, NEW, NONE, "restore()");
        t.leavesAll(33, FILLED, STATE, "sheet(0, 8, -1)", "sheet(3, 16, MIN)", "sheet(2, 32, -1)");
        t.leavesAll(6, FILLED, FULL, "diner(0, 0)", "diner(69, 9)");
        t.leavesAll(11, FILLED, FULL, "feed(49, 6)", "feed(-1, 8)");
        t.leavesAll(40, FILLED, FULL, "tell(0)", "tell(MIN)");
        t.leavesAll(10, FILLED, KIND, "as(0, 1)", "as(0, 6)", "as(1, 2)", "as(4, 3)", "as(7, 5)");
        t.leavesAll(35, FILLED, KIND, "move(0, 0, 1, 0, 1)", "move(1, -1, 2, 0, 9)", "move(2, 0, 1, 0, 0)");
        t.leavesAll(14, LATE, STATE, "days(1)", "days(60)");
        t.leavesAll(15, LATE, STATE, "loose(1)", "loose(40)");
        t.leavesAll(16, FILLED, 0, THOUGHT_IN_FILLED);
        t.neverThrows();
        t.end(43, 43);
    }
}

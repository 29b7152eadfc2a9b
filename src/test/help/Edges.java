import java.lang.reflect.InvocationTargetException;
import java.lang.reflect.Method;
import java.util.HashMap;
import java.util.Map;
import java.util.TreeMap;

/** What the tests of edges share: a new house for each sentence, calls in words, and the answers that are due. */
abstract class Edges {
    static final int BEYOND = -1000000001;
    static final int NONE = -1000000002;
    static final int STATE = -1000000003;
    static final int FULL = -1000000004;
    static final int KIND = -1000000005;
    static final int MIN = Integer.MIN_VALUE;
    static final int MAX = Integer.MAX_VALUE;
    /** The document promises nothing behind so many calls, so a test that needs more tests nothing. */
    private static final int CALLS_MOST = 512;
    private static final int PRINTED_MOST = 60;
    private static final Map<String, Method> FACE = new HashMap<>();

    static {
        for (Method m : ScullerySweets.class.getDeclaredMethods()) {
            FACE.put(m.getName(), m);
        }
    }

    private final Map<Integer, Integer> sentences = new TreeMap<>();
    private ScullerySweets house = new ScullerySweets();
    private String sentence = "";
    private int calls = 0;
    private int asked = 0;
    private int wrong = 0;

    /** A sentence of a promise (or of the terms that it uses), and a new house to test it on. */
    final void sentence(int promise, String words) {
        sentence = "promise " + promise + ", " + words;
        sentences.merge(promise, 1, Integer::sum);
        house = new ScullerySweets();
        calls = 0;
    }

    final void wrong(String what) {
        wrong++;
        if (wrong <= PRINTED_MOST) {
            System.out.println(sentence + ": " + what);
        }
    }

    /** A call as the document writes it: dish(0, 0, 9); MIN and MAX stand for the least and the greatest int. */
    final int call(String words) {
        int open = words.indexOf('(');
        Method m = FACE.get(words.substring(0, open));
        String inside = words.substring(open + 1, words.length() - 1);
        String[] parts = inside.isEmpty() ? new String[0] : inside.split(", ");
        Object[] values = new Object[parts.length];
        for (int i = 0; i < parts.length; i++) {
            long v = parts[i].equals("MIN") ? MIN : parts[i].equals("MAX") ? MAX : Long.parseLong(parts[i]);
            values[i] = m.getParameterTypes()[i] == long.class ? (Object) v : (Object) Math.toIntExact(v);
        }
        calls++;
        if (calls > CALLS_MOST) {
            wrong("more than " + CALLS_MOST + " calls");
        }
        try {
            return (Integer) m.invoke(house, values);
        } catch (InvocationTargetException | IllegalAccessException e) {
            wrong(words + " threw " + e.getCause());
            return 0;
        }
    }

    final void due(String words, int want) {
        asked++;
        int got = call(words);
        if (got != want) {
            wrong(words + " answered " + got + ", due is " + want);
        }
    }

    /** Calls that make ready what is tested: none of them may be refused. */
    final void does(String... words) {
        for (String w : words) {
            int got = call(w);
            if (got <= BEYOND && got >= KIND && !w.startsWith("seed")) {
                wrong(w + " was refused: " + got);
            }
        }
    }

    /** The same call with several numbers in place of '?'. */
    final void each(String form, int want, int... values) {
        for (int v : values) {
            due(form.replace("?", Integer.toString(v)), want);
        }
    }

    /** BEYOND on either side of least and most, and at the ends of all ints; no ERROR at least and at most. */
    final void edges(String form, int least, int most) {
        each(form, BEYOND, least - 1, most + 1, MIN, MAX);
        does(form.replace("?", Integer.toString(least)), form.replace("?", Integer.toString(most)));
    }

    final void diners(int... kmAndGrief) {
        for (int i = 0; i + 1 < kmAndGrief.length; i += 2) {
            does("diner(" + kmAndGrief[i] + ", " + kmAndGrief[i + 1] + ")");
        }
    }

    final void tape(String text) {
        for (int from = 0; from < text.length(); from += 8) {
            int n = Math.min(8, text.length() - from);
            long word = 0;
            for (int i = n - 1; i >= 0; i--) {
                word = word << 8 | text.charAt(from + i);
            }
            does("feed(" + word + ", " + n + ")");
        }
    }

    final void text(int use, String text) {
        dueText(use, text, 1);
    }

    final void dueText(int use, String text, int want) {
        tape(text);
        int got = call("text(" + use + ")");
        asked++;
        if (got != want) {
            wrong("text of " + text + " answered " + got + ", due is " + want);
        }
    }

    final void numbers(int sheet, int bits, int... numbers) {
        does("sheet(" + sheet + ", " + bits + ", " + numbers.length + ")");
        for (int i = 0; i < numbers.length; i++) {
            does("put(" + sheet + ", " + i + ", " + numbers[i] + ")");
        }
    }

    final void daysTo(int day) {
        int today = call("count(1)");
        while (today < day) {
            int n = Math.min(60, day - today);
            does("days(" + n + ")");
            today += n;
        }
    }

    /** Says what was tested, and ends with 1 if an answer was wrong or a promise has no sentence here. */
    final void end(int firstPromise, int lastPromise) {
        for (int p = firstPromise; p <= lastPromise; p++) {
            if (!sentences.containsKey(p)) {
                wrong("no sentence of promise " + p);
            }
        }
        int many = sentences.values().stream().mapToInt(Integer::intValue).sum();
        System.out.println(many + " sentences, " + asked + " answers asked, " + wrong + " wrong");
        if (wrong != 0) {
            System.exit(1);
        }
    }
}

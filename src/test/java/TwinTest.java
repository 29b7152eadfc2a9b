import java.util.ArrayList;
import java.util.Arrays;
import java.util.List;
import java.util.Random;

/**
 * Seeded runs of calls on the class and on a second model, written in another way: KINDS are Java classes, houses are
 * copied whole, TEXTS are split at their loosest sign, FAULTS come from a machine with a stack, sums are searched.
 */
public final class TwinTest {
    private static final int LOW = -1000000000;

    /** What the twin answers with where an ERROR is due. */
    private static final class Fail extends RuntimeException {
        private static final long serialVersionUID = 1L;
        final int k;

        Fail(int k) {
            super(null, null, false, false);
            this.k = k;
        }
    }

    private static void ask(boolean is, int k) {
        if (!is) {
            throw new Fail(k);
        }
    }

    private static void range(long v, long least, long most) {
        ask(v >= least && v <= most, 1);
    }

    // ---- KINDS

    static class Diner {
        int n;
        int m;
        int grief;
        int loves;
        int known;
        List<Integer> trace = new ArrayList<>();

        int leaves(int s, int f, int day) {
            return f > 5 ? grief / 3 + 1 : grief / 3;
        }

        int mends(int day) {
            return 1;
        }

        int vLeaves(int x) {
            trace.add(10);
            return x + n;
        }

        int vMends(int x) {
            trace.add(11);
            return vLeaves(x) * 2;
        }

        int vGrieves(int x) {
            trace.add(12);
            return x - m;
        }

        int vTells(int x) {
            trace.add(13);
            return vMends(x) ^ vGrieves(x);
        }
    }

    static class Colonel extends Diner {
        @Override
        int leaves(int s, int f, int day) {
            return grief / 2;
        }

        @Override
        int mends(int day) {
            return (day & 1) == 0 ? 0 : super.mends(day);
        }

        @Override
        int vLeaves(int x) {
            trace.add(20);
            return super.vLeaves(x) * 3;
        }
    }

    static class Lady extends Diner {
        @Override
        int leaves(int s, int f, int day) {
            return super.leaves(s, f, day) + (s > 5 ? 1 : 0);
        }

        @Override
        int vMends(int x) {
            trace.add(30);
            return super.vMends(x) - vGrieves(1);
        }
    }

    static class Subaltern extends Diner {
        @Override
        int leaves(int s, int f, int day) {
            return s + grief > 9 ? 4 : super.leaves(s, f, day);
        }

        @Override
        int mends(int day) {
            return 0;
        }

        @Override
        int vGrieves(int x) {
            trace.add(40);
            return -super.vGrieves(x);
        }
    }

    static final class General extends Colonel {
        @Override
        int leaves(int s, int f, int day) {
            return super.leaves(s, f, day) - 1;
        }

        @Override
        int vTells(int x) {
            trace.add(50);
            return super.vTells(x) - vLeaves(2);
        }
    }

    static final class Duchess extends Lady {
        @Override
        int leaves(int s, int f, int day) {
            return (day & 1) == 1 && m > grief ? 4 : super.leaves(s, f, day);
        }

        @Override
        int mends(int day) {
            return 2 * super.mends(day);
        }

        @Override
        int vMends(int x) {
            trace.add(60);
            return super.vMends(x + 1);
        }
    }

    static final class Cadet extends Subaltern {
        @Override
        int leaves(int s, int f, int day) {
            return super.leaves(s, f, day) + m / 3;
        }

        @Override
        int mends(int day) {
            return m % 2 == 0 ? 1 : super.mends(day);
        }

        @Override
        int vGrieves(int x) {
            trace.add(70);
            return super.vGrieves(x) ^ n;
        }

        @Override
        int vTells(int x) {
            trace.add(71);
            return vMends(x) - super.vTells(x);
        }
    }

    private static final List<Class<? extends Diner>> KINDS = List.of(Diner.class, Colonel.class, Lady.class,
        Subaltern.class, General.class, Duchess.class, Cadet.class);

    private static Diner made(int kind, int n, int m, int grief, int loves, int known) {
        Diner d;
        switch (kind) {
            case 0: d = new Diner(); break;
            case 1: d = new Colonel(); break;
            case 2: d = new Lady(); break;
            case 3: d = new Subaltern(); break;
            case 4: d = new General(); break;
            case 5: d = new Duchess(); break;
            default: d = new Cadet(); break;
        }
        d.n = n;
        d.m = m;
        d.grief = grief;
        d.loves = loves;
        d.known = known;
        return d;
    }

    private static int kindOf(Diner d) {
        return KINDS.indexOf(d.getClass());
    }

    // ---- TEXTS

    static int fault(String t, String names) {
        boolean operand = true;
        int digits = 0;
        List<int[]> frames = new ArrayList<>();
        frames.add(new int[2]);
        for (int i = 0; i < t.length(); i++) {
            char c = t.charAt(i);
            int[] frame = frames.get(frames.size() - 1);
            int open = frames.size() - 1;
            for (int[] f : frames) {
                open += f[0];
            }
            if (operand) {
                if (c == '!' || c == '(') {
                    if (open == 5) {
                        return i;
                    }
                    if (c == '!') {
                        frame[0]++;
                    } else {
                        frames.add(new int[2]);
                    }
                } else if (c >= '0' && c <= '9' || names.indexOf(c) >= 0) {
                    operand = false;
                    frame[0] = 0;
                    digits = c >= '0' && c <= '9' ? 1 : 4;
                } else {
                    return i;
                }
            } else if (c >= '0' && c <= '9' && digits < 4) {
                digits++;
            } else if (c == ')' && frames.size() > 1) {
                frames.remove(frames.size() - 1);
                frames.get(frames.size() - 1)[0] = 0;
                digits = 4;
            } else if ("<=>".indexOf(c) >= 0 && frame[1] == 0) {
                frame[1] = 1;
                operand = true;
            } else if ("|&".indexOf(c) >= 0) {
                frame[1] = 0;
                operand = true;
            } else if ("+-*/%".indexOf(c) >= 0) {
                operand = true;
            } else {
                return i;
            }
        }
        return operand || frames.size() > 1 ? t.length() : -1;
    }

    static int value(String t, String names, int[] v) {
        for (String signs : new String[] {"|", "&", "<=>", "+-", "*/%"}) {
            int depth = 0;
            for (int i = t.length() - 1; i > 0; i--) {
                char c = t.charAt(i);
                depth += c == ')' ? 1 : c == '(' ? -1 : 0;
                if (depth == 0 && signs.indexOf(c) >= 0) {
                    return joined(c, value(t.substring(0, i), names, v), value(t.substring(i + 1), names, v));
                }
            }
        }
        if (t.charAt(0) == '!') {
            return value(t.substring(1), names, v) == 0 ? 1 : 0;
        }
        if (t.charAt(0) == '(') {
            return value(t.substring(1, t.length() - 1), names, v);
        }
        int name = names.indexOf(t);
        return name >= 0 ? v[name] : Integer.parseInt(t);
    }

    private static int joined(char c, int a, int b) {
        boolean is;
        switch (c) {
            case '+': return a + b;
            case '-': return a - b;
            case '*': return a * b;
            case '/': return b == 0 ? 0 : (int) ((long) a / b);
            case '%': return b == 0 ? 0 : (int) ((long) a % b);
            case '|': is = (a != 0) | (b != 0); break;
            case '&': is = (a != 0) & (b != 0); break;
            case '<': is = a < b; break;
            case '=': is = a == b; break;
            default: is = a > b; break;
        }
        return is ? 1 : 0;
    }

    private static final String[] NAMES = {"lsg", "esg"};

    // ---- all that an IMAGE keeps

    static final class Model {
        int[] sweet = new int[16];
        int[] fat = new int[16];
        int[] menu = {0, 1, 2, 3, 4, 5};
        int room = 12;
        int pigs = 0;
        int day = 0;
        int z = 1;
        List<Diner> diners = new ArrayList<>();
        String[] texts = {null, null};
        String tape = "";
        List<Integer> waiting = new ArrayList<>();

        Model() {
            for (int i = 0; i < 16; i++) {
                sweet[i] = i % 10;
                fat[i] = 3;
            }
        }

        Model copy() {
            Model c = new Model();
            c.sweet = sweet.clone();
            c.fat = fat.clone();
            c.menu = menu.clone();
            c.room = room;
            c.pigs = pigs;
            c.day = day;
            c.z = z;
            for (Diner d : diners) {
                c.diners.add(made(kindOf(d), d.n, d.m, d.grief, d.loves, d.known));
            }
            c.texts = texts.clone();
            c.tape = tape;
            c.waiting = new ArrayList<>(waiting);
            return c;
        }

        int law(int use, int a, int b, int c) {
            int v = texts[use] == null ? a : value(texts[use], NAMES[use], new int[] {a, b, c});
            return Math.min(use == 0 ? 4 : 9, Math.max(0, v));
        }

        int left(int course, Diner d) {
            int dish = menu[course];
            return law(0, d.leaves(sweet[dish], fat[dish], day), sweet[dish], d.grief);
        }

        int taste(int course, Diner d, int e) {
            return law(1, e, sweet[menu[course]], d.grief);
        }

        Model after(int n) {
            Model c = copy();
            for (int i = 0; i < n; i++) {
                c.oneDay();
            }
            return c;
        }

        void oneDay() {
            int eatenToday = 0;
            boolean[] untouched = new boolean[8];
            for (int course = 0; course < 6; course++) {
                for (Diner d : diners) {
                    int left = left(course, d);
                    untouched[d.n] = course == 5 && left == 4;
                    int e = 0;
                    while (e < left && eatenToday < room) {
                        e++;
                        eatenToday++;
                    }
                    if (e > 0) {
                        d.known = Math.min(99, d.known + taste(course, d, e));
                    }
                    pigs = Math.min(99999, pigs + left - e);
                }
            }
            for (Diner d : diners) {
                boolean grieves = d.loves != d.n && untouched[d.loves];
                d.grief = grieves ? Math.min(9, d.grief + 1) : Math.max(0, d.grief - d.mends(day));
            }
            day++;
        }

        int knownOfAll() {
            return diners.stream().mapToInt(d -> d.known).sum();
        }

        /** LEFT and TASTE of each plate. */
        List<int[]> plates() {
            List<int[]> all = new ArrayList<>();
            for (Diner d : diners) {
                for (int course = 0; course < 6; course++) {
                    int left = left(course, d);
                    if (left > 0) {
                        all.add(new int[] {left, taste(course, d, left)});
                    }
                }
            }
            return all;
        }
    }

    // ---- the twin of the class

    static final class Twin {
        Model now = new Model();
        Model kept = null;
        int images = 0;
        int[] told = new int[6];
        long[][] sheets = new long[4][];
        int[] bits = new int[4];
        List<Integer> trace = new ArrayList<>();

        int answer(int method, int[] a, long word) {
            try {
                return method < 15 ? plain(method, a, word) : method < 29 ? thought(method, a) : rest(method, a);
            } catch (Fail f) {
                told[f.k]++;
                return LOW - f.k;
            }
        }

        Diner diner(int i) {
            range(i, 0, now.diners.size() - 1);
            return now.diners.get(i);
        }

        static int set(int[] row, int i, int v) {
            int was = row[i];
            row[i] = v;
            return was;
        }

        int plain(int method, int[] a, long word) {
            switch (method) {
                case 0:
                    range(a[0], 0, 15);
                    range(a[1], 0, 1);
                    range(a[2], 0, 9);
                    return set(a[1] == 0 ? now.sweet : now.fat, a[0], a[2]);
                case 1: {
                    range(a[0], 0, 15);
                    range(a[1], 0, 2);
                    int set = 0;
                    for (int c = 0; c < 6; c++) {
                        set += now.menu[c] == a[0] ? 1 << c : 0;
                    }
                    return new int[] {now.sweet[a[0]], now.fat[a[0]], set}[a[1]];
                }
                case 2:
                    range(a[0], 0, 5);
                    range(a[1], -1, 15);
                    return set(now.menu, a[0], a[1] < 0 ? now.menu[a[0]] : a[1]);
                case 3: {
                    range(a[0], 0, 1);
                    range(a[1], 0, a[0] == 0 ? 40 : 99999);
                    int was = a[0] == 0 ? now.room : now.pigs;
                    now.room = a[0] == 0 ? a[1] : now.room;
                    now.pigs = a[0] == 1 ? a[1] : now.pigs;
                    return was;
                }
                case 4: {
                    range(a[0], 0, 69);
                    range(a[1], 0, 9);
                    int n = now.diners.size();
                    ask(n < 8, 4);
                    now.diners.add(made(a[0] / 10, n, a[0] % 10, a[1], n, 0));
                    return n;
                }
                case 5: {
                    Diner d = diner(a[0]);
                    range(a[1], 0, 11);
                    return a[1] > 5 ? now.left(a[1] - 6, d)
                        : new int[] {kindOf(d), d.m, d.grief, d.loves, d.known, d.mends(now.day)}[a[1]];
                }
                case 6: {
                    Diner d = diner(a[0]);
                    range(a[1], 0, 2);
                    range(a[2], 0, new int[] {9, 7, 99}[a[1]]);
                    int was = new int[] {d.grief, d.loves, d.known}[a[1]];
                    now.diners.set(d.n, made(kindOf(d), d.n, d.m, a[1] == 0 ? a[2] : d.grief,
                        a[1] == 1 ? a[2] : d.loves, a[1] == 2 ? a[2] : d.known));
                    return was;
                }
                case 7: {
                    Diner d = diner(a[0]);
                    range(a[1], 0, 69);
                    now.diners.set(d.n, made(a[1] / 10, d.n, a[1] % 10, d.grief, d.loves, d.known));
                    return kindOf(d);
                }
                case 8: {
                    Diner d = diner(a[0]);
                    range(a[1], 0, 6);
                    ask(KINDS.get(a[1]).isInstance(d), 5);
                    return d.m;
                }
                case 9:
                    range(a[0], 1, 8);
                    ask(now.tape.length() + a[0] <= 50, 4);
                    for (int i = 0; i < a[0]; i++) {
                        now.tape += (char) (word & 255);
                        word >>= 8;
                    }
                    return now.tape.length();
                case 10: {
                    range(a[0], 0, 1);
                    String t = now.tape;
                    now.tape = "";
                    int fault = fault(t, NAMES[a[0]]);
                    if (fault >= 0) {
                        return -10 - fault;
                    }
                    now.texts[a[0]] = t;
                    return 1;
                }
                case 11:
                    range(a[0], 0, 1);
                    return now.law(a[0], a[1], a[2], a[3]);
                case 12:
                    range(a[0], 1, 60);
                    ask(now.day + a[0] <= 9999, 3);
                    now = now.after(a[0]);
                    return now.pigs;
                case 13:
                    range(a[0], 1, 40);
                    ask(now.day + a[0] <= 9999, 3);
                    for (int i = 0; i < a[0]; i++) {
                        now.z = now.z * 1103515245 + 12345;
                        int course = (now.z >>> 8) % 6;
                        now.z = now.z * 1103515245 + 12345;
                        now.menu[course] = (now.z >>> 8) % 16;
                        now.oneDay();
                    }
                    return now.pigs;
                default: {
                    range(a[0], 0, 60);
                    diner(a[1]);
                    range(a[2], 0, 1);
                    Diner d = now.after(a[0]).diners.get(a[1]);
                    return a[2] == 0 ? d.grief : d.known;
                }
            }
        }

        int thought(int method, int[] a) {
            switch (method) {
                case 15:
                    diner(a[0]);
                    range(a[1], 0, 99);
                    for (int n = 0; n <= 60; n++) {
                        if (now.after(n).diners.get(a[0]).known >= a[1]) {
                            return n;
                        }
                    }
                    throw new Fail(2);
                case 16:
                    range(a[0], 0, 1);
                    for (int n = 0; n <= 60; n++) {
                        Model then = now.after(n);
                        for (Diner d : then.diners) {
                            if (then.left(5, d) == 4) {
                                return a[0] == 0 ? n : d.n;
                            }
                        }
                    }
                    throw new Fail(2);
                case 17:
                    diner(a[0]);
                    range(a[1], 0, 99);
                    range(a[2], 0, 30);
                    for (int room = 0; room <= 40; room++) {
                        if (knownWith(room, a[2], a[0]) >= a[1]) {
                            return room;
                        }
                    }
                    throw new Fail(2);
                case 18:
                    return best(a[0], a[1], a[2]);
                case 19:
                    return swap(a[0]);
                case 20:
                    return whose(a[0], a[1], a[2]);
                case 21:
                    return loved(a[0], a[1]);
                case 22: {
                    range(a[0], 0, 40);
                    int[][] most = new int[49][41];
                    List<int[]> plates = now.plates();
                    for (int i = 0; i < plates.size(); i++) {
                        for (int r = 0; r <= 40; r++) {
                            int[] p = plates.get(i);
                            int with = p[0] <= r ? most[i][r - p[0]] + p[1] : 0;
                            most[i + 1][r] = Math.max(most[i][r], with);
                        }
                    }
                    return most[plates.size()][a[0]];
                }
                case 23: {
                    range(a[0], 0, 999);
                    int[] tastes = now.plates().stream().mapToInt(p -> p[1]).sorted().toArray();
                    int sum = 0;
                    for (int n = 0; n <= tastes.length; n++) {
                        if (sum >= a[0]) {
                            return n;
                        }
                        sum += n < tastes.length ? tastes[tastes.length - 1 - n] : 0;
                    }
                    throw new Fail(2);
                }
                case 24: {
                    range(a[0], 0, 60);
                    int set = 0;
                    for (Diner d : now.after(a[0]).diners) {
                        set += d.grief == 9 ? 1 << d.n : 0;
                    }
                    return set;
                }
                case 25:
                    range(a[0], 0, 60);
                    return now.after(a[0]).pigs - now.pigs;
                case 26:
                    return cheer(a[0], a[1]);
                case 27: {
                    diner(a[0]);
                    range(a[1], 0, 30);
                    range(a[2], 0, 99);
                    range(a[3], 0, 1);
                    int above = 0;
                    for (int room = 0; room <= 36; room += 4) {
                        above += knownWith(room, a[1], a[0]) >= a[2] ? 1 : 0;
                    }
                    int[][] lowest = {{0, 1}, {1, 10}, {1, 5}, {3, 10}, {2, 5}, {1, 2}, {3, 5}, {7, 10}, {4, 5},
                        {9, 10}, {1, 1}};
                    return lowest[above][a[3]];
                }
                default: {
                    int was = now.z;
                    now.z = a[0];
                    return was;
                }
            }
        }

        int knownWith(int room, int n, int diner) {
            Model c = now.copy();
            c.room = room;
            return c.after(n).diners.get(diner).known;
        }

        int best(int course, int n, int what) {
            range(course, 0, 5);
            range(n, 0, 20);
            range(what, 0, 1);
            int[] known = new int[16];
            for (int dish = 0; dish < 16; dish++) {
                Model c = now.copy();
                c.menu[course] = dish;
                known[dish] = c.after(n).knownOfAll();
            }
            int most = Arrays.stream(known).max().getAsInt();
            int dish = 0;
            while (known[dish] != most) {
                dish++;
            }
            return what == 0 ? dish : most;
        }

        int swap(int n) {
            range(n, 0, 20);
            int pair = -1;
            int most = now.after(n).knownOfAll();
            for (int code = 0; code < 60; code++) {
                int i = code / 10;
                int j = code % 10;
                if (j > i && j < 6) {
                    Model c = now.copy();
                    c.menu[i] = now.menu[j];
                    c.menu[j] = now.menu[i];
                    int known = c.after(n).knownOfAll();
                    if (known > most) {
                        most = known;
                        pair = code;
                    }
                }
            }
            return pair;
        }

        int whose(int sheet, int diner, int what) {
            range(sheet, 0, 3);
            Diner d = diner(diner);
            range(what, 0, 1);
            ask(bits[sheet] != 0, 2);
            List<Integer> so = new ArrayList<>();
            for (int code = 0; code < 70; code++) {
                Diner other = made(code / 10, d.n, d.m, code % 10, d.loves, d.known);
                boolean is = sheets[sheet].length <= 6;
                for (int c = 0; is && c < sheets[sheet].length; c++) {
                    is = now.left(c, other) == sheets[sheet][c];
                }
                if (is) {
                    so.add(code);
                }
            }
            ask(what == 0 || !so.isEmpty(), 2);
            return what == 0 ? so.size() : so.get(0);
        }

        int loved(int sheet, int diner) {
            range(sheet, 0, 3);
            diner(diner);
            ask(bits[sheet] != 0, 2);
            int set = 0;
            for (int whom = 0; whom < 8; whom++) {
                Model c = now.copy();
                c.diners.get(diner).loves = whom;
                boolean is = true;
                for (int i = 0; i < sheets[sheet].length; i++) {
                    c.oneDay();
                    is &= c.diners.get(diner).grief == sheets[sheet][i];
                }
                set += is ? 1 << whom : 0;
            }
            return set;
        }

        int cheer(int diner, int q) {
            Diner d = diner(diner);
            range(q, 0, 24);
            int most = -1;
            for (int grief = 0; grief <= 9; grief++) {
                Diner other = made(kindOf(d), d.n, d.m, grief, d.loves, d.known);
                int sum = 0;
                for (int c = 0; c < 6; c++) {
                    sum += now.left(c, other);
                }
                most = sum <= q ? grief : most;
            }
            ask(most >= 0, 2);
            return most;
        }

        int rest(int method, int[] a) {
            switch (method) {
                case 29: {
                    Diner d = diner(a[0]);
                    range(a[1], 0, 3);
                    d.trace = new ArrayList<>();
                    int v = a[1] == 0 ? d.vLeaves(a[2]) : a[1] == 1 ? d.vMends(a[2])
                        : a[1] == 2 ? d.vGrieves(a[2]) : d.vTells(a[2]);
                    trace = d.trace;
                    return v;
                }
                case 30:
                    ask(a[0] >= 0 && a[0] < trace.size(), 2);
                    return trace.get(a[0]);
                case 31:
                    range(a[0], 0, 3);
                    ask(a[1] == 0 || a[1] == 8 || a[1] == 16 || a[1] == 32, 1);
                    if (a[1] != 0) {
                        ask(a[2] >= 0, 3);
                        range(a[2], 0, 40);
                        sheets[a[0]] = new long[a[2]];
                    }
                    bits[a[0]] = a[1];
                    return 1;
                case 32:
                    range(a[0], 0, 3);
                    ask(bits[a[0]] != 0, 2);
                    range(a[1], 0, sheets[a[0]].length - 1);
                    sheets[a[0]][a[1]] = bits[a[0]] == 8 ? (byte) a[2] : bits[a[0]] == 16 ? (short) a[2] : a[2];
                    return 1;
                case 33: {
                    range(a[0], 0, 3);
                    range(a[2], 0, 3);
                    ask(bits[a[0]] != 0 && bits[a[2]] != 0, 2);
                    ask(bits[a[0]] == bits[a[2]], 5);
                    range(a[4], 0, Integer.MAX_VALUE);
                    range(a[1], 0, (long) sheets[a[0]].length - a[4]);
                    range(a[3], 0, (long) sheets[a[2]].length - a[4]);
                    long[] were = sheets[a[0]].clone();
                    for (int i = 0; i < a[4]; i++) {
                        sheets[a[2]][a[3] + i] = were[a[1] + i];
                    }
                    return a[4];
                }
                case 34: {
                    range(a[0], 0, 3);
                    ask(bits[a[0]] != 0, 2);
                    int n = 0;
                    for (long v : sheets[a[0]]) {
                        if (n == 6 || v < 0 || v > 15) {
                            break;
                        }
                        now.menu[n++] = (int) v;
                    }
                    return n;
                }
                case 35: {
                    range(a[0], 0, 3);
                    ask(bits[a[0]] != 0, 2);
                    long[] griefs = now.diners.stream().mapToLong(d -> d.grief).toArray();
                    return Arrays.mismatch(sheets[a[0]], griefs);
                }
                case 36:
                    kept = now.copy();
                    return ++images;
                case 37:
                    ask(kept != null, 2);
                    now = kept.copy();
                    return now.day;
                case 38:
                    ask(now.waiting.size() < 20, 4);
                    now.waiting.add(a[0]);
                    return now.waiting.size();
                case 39: {
                    List<Integer> waited = now.waiting;
                    now.waiting = new ArrayList<>();
                    for (int i = 0; i < waited.size(); i++) {
                        if (now.after(i + 1).pigs != waited.get(i)) {
                            return 1 + i;
                        }
                    }
                    return 0;
                }
                case 40:
                    range(a[0], 0, 10);
                    return new int[] {now.diners.size(), now.day, now.room, now.pigs,
                        now.diners.stream().mapToInt(d -> d.grief).sum(), now.knownOfAll(),
                        Arrays.stream(now.sweet).sum(), now.tape.length(), now.waiting.size(), trace.size(),
                        now.z}[a[0]];
                default:
                    range(a[0], 1, 5);
                    return told[a[0]];
            }
        }
    }

    private static int asked(ScullerySweets x, int method, int[] a, long word) {
        switch (method) {
            case 0: return x.dish(a[0], a[1], a[2]);
            case 1: return x.ofDish(a[0], a[1]);
            case 2: return x.menu(a[0], a[1]);
            case 3: return x.house(a[0], a[1]);
            case 4: return x.diner(a[0], a[1]);
            case 5: return x.ofDiner(a[0], a[1]);
            case 6: return x.change(a[0], a[1], a[2]);
            case 7: return x.become(a[0], a[1]);
            case 8: return x.as(a[0], a[1]);
            case 9: return x.feed(word, a[0]);
            case 10: return x.text(a[0]);
            case 11: return x.law(a[0], a[1], a[2], a[3]);
            case 12: return x.days(a[0]);
            case 13: return x.loose(a[0]);
            case 14: return x.then(a[0], a[1], a[2]);
            case 15: return x.out(a[0], a[1]);
            case 16: return x.first(a[0]);
            case 17: return x.roomFor(a[0], a[1], a[2]);
            case 18: return x.best(a[0], a[1], a[2]);
            case 19: return x.swap(a[0]);
            case 20: return x.whose(a[0], a[1], a[2]);
            case 21: return x.loved(a[0], a[1]);
            case 22: return x.pack(a[0]);
            case 23: return x.few(a[0]);
            case 24: return x.broken(a[0]);
            case 25: return x.swill(a[0]);
            case 26: return x.cheer(a[0], a[1]);
            case 27: return x.odds(a[0], a[1], a[2], a[3]);
            case 28: return x.seed(a[0]);
            case 29: return x.voice(a[0], a[1], a[2]);
            case 30: return x.trace(a[0]);
            case 31: return x.sheet(a[0], a[1], a[2]);
            case 32: return x.put(a[0], a[1], a[2]);
            case 33: return x.move(a[0], a[1], a[2], a[3], a[4]);
            case 34: return x.menus(a[0]);
            case 35: return x.judge(a[0]);
            case 36: return x.image();
            case 37: return x.restore();
            case 38: return x.tell(a[0]);
            case 39: return x.check();
            case 40: return x.count(a[0]);
            default: return x.told(a[0]);
        }
    }

    /** The most that each argument may be, the least being 0; what goes beyond comes by chance. */
    private static final int[][] MOST = {
        {15, 1, 9}, {15, 2}, {5, 15}, {1, 40}, {69, 9}, {7, 11}, {7, 2, 9}, {7, 69}, {7, 6}, {8}, {1}, {1, 9, 9, 9},
        {60}, {40}, {60, 7, 1}, {7, 99}, {1}, {7, 40, 30}, {5, 20, 1}, {20}, {3, 7, 1}, {3, 7}, {40}, {200}, {60},
        {60}, {7, 24}, {7, 30, 60, 1}, {9}, {7, 3, 9}, {9}, {3, 32, 8}, {3, 8, 9}, {3, 8, 3, 8, 4}, {3}, {3}, {}, {},
        {300}, {}, {10}, {5}};

    private static final int[] ODD_ONES = {-1, -2, 40, 41, 60, 61, 99, 100, 999, 1000, 99999, 100000,
        Integer.MAX_VALUE, Integer.MIN_VALUE, Integer.MIN_VALUE + 1, LOW - 1};

    private static int[] chosen(Random random, int method) {
        int[] a = new int[MOST[method].length];
        for (int i = 0; i < a.length; i++) {
            int most = MOST[method][i];
            int chance = random.nextInt(60);
            a[i] = chance == 0 ? ODD_ONES[random.nextInt(ODD_ONES.length)]
                : chance == 1 ? random.nextInt() : chance == 2 ? most + 1 : random.nextInt(most + 1);
        }
        if (method == 31 && random.nextInt(10) > 0) {
            a[1] = new int[] {8, 16, 32, 8, 16, 32, 0}[random.nextInt(7)];
        }
        if (method == 3 && random.nextInt(6) == 0) {
            a[0] = 1;
            a[1] = 99999 - random.nextInt(300);
        }
        return a;
    }

    private static String someText(Random random, int depth, String names) {
        int pick = random.nextInt(depth > 3 ? 4 : 14);
        if (pick < 2) {
            return "" + random.nextInt(pick == 0 ? 10 : 10000);
        }
        if (pick < 4) {
            return "" + names.charAt(random.nextInt(3));
        }
        if (pick < 6) {
            return "!" + someText(random, depth + 1, names);
        }
        if (pick < 8) {
            return "(" + someText(random, depth + 1, names) + ")";
        }
        return someText(random, depth + 1, names) + "|&<=>+-*/%+-*".charAt(random.nextInt(13))
            + someText(random, depth + 1, names);
    }

    private static String spoilt(Random random, String text) {
        if (random.nextInt(3) > 0 || text.isEmpty()) {
            return text;
        }
        int at = random.nextInt(text.length());
        String signs = "|&<=>+-*/%!()lesg0123 \u00fe";
        String sign = "" + signs.charAt(random.nextInt(signs.length()));
        return random.nextBoolean() ? text.substring(0, at) + sign + text.substring(at)
            : text.substring(0, at) + text.substring(at + 1);
    }

    private int calls = 0;
    private final Random random;
    private final long seed;
    private final int[] answered = new int[MOST.length];
    private final ScullerySweets one = new ScullerySweets();
    private final Twin two = new Twin();

    private TwinTest(long seed) {
        this.seed = seed;
        this.random = new Random(seed);
    }

    private void same(int method, int[] a, long word) {
        if (calls >= 512) {
            return;
        }
        calls++;
        int want = two.answer(method, a, word);
        int got = asked(one, method, a, word);
        answered[method] += want > LOW ? 1 : 0;
        if (got != want) {
            System.out.println("seed " + seed + ", call " + calls + ": method " + method + " of "
                + Arrays.toString(a) + " answered " + got + ", the twin " + want);
            System.exit(1);
        }
    }

    private void feedText() {
        int use = random.nextInt(2);
        String text = spoilt(random, someText(random, 0, NAMES[use]));
        for (int from = 0; from < text.length(); from += 8) {
            int n = Math.min(8, text.length() - from);
            // What stands above the n lowest bytes must not matter.
            long word = n == 8 ? 0 : random.nextLong() << (8 * n);
            for (int i = 0; i < n; i++) {
                word |= (text.charAt(from + i) & 255L) << (8 * i);
            }
            same(9, new int[] {n}, word);
        }
        same(10, new int[] {use}, 0);
    }

    /** A SHEET that tells what is so, now and then spoilt, so that whose(), loved() and judge() have work. */
    private void tellTruth() {
        int sheet = random.nextInt(4);
        int n = random.nextInt(8);
        int diners = two.now.diners.size();
        if (diners == 0) {
            return;
        }
        int diner = random.nextInt(diners);
        int kind = random.nextInt(3);
        n = kind == 2 && random.nextInt(4) > 0 ? diners : n;
        same(31, new int[] {sheet, 8 << random.nextInt(3), n}, 0);
        for (int i = 0; i < n; i++) {
            int v = kind == 0 ? two.now.left(Math.min(5, i), two.now.diners.get(diner))
                : kind == 1 ? two.now.after(i + 1).diners.get(diner).grief
                : two.now.diners.get(Math.min(diners - 1, i)).grief;
            same(32, new int[] {sheet, i, random.nextInt(30) == 0 ? random.nextInt(10) : v}, 0);
        }
        same(20, new int[] {sheet, diner, 0}, 0);
        same(20, new int[] {sheet, diner, 1}, 0);
        same(21, new int[] {sheet, diner}, 0);
        same(35, new int[] {sheet}, 0);
    }

    private void tellPigs() {
        int n = random.nextInt(6);
        for (int i = 0; i < n; i++) {
            int before = two.now.waiting.size();
            int pigs = two.now.after(before + 1).pigs;
            same(38, new int[] {random.nextInt(12) == 0 ? pigs + 1 : pigs}, 0);
        }
        same(39, new int[0], 0);
    }

    private void run() {
        int diners = random.nextInt(9);
        for (int i = 0; i < diners; i++) {
            same(4, chosen(random, 4), 0);
            same(6, new int[] {i, 1, random.nextInt(8)}, 0);
        }
        for (int i = 0; i < 600 && calls < 512; i++) {
            int pick = random.nextInt(60);
            if (pick < 2) {
                feedText();
            } else if (pick == 2) {
                tellTruth();
            } else if (pick == 3) {
                tellPigs();
            } else {
                int method = random.nextInt(MOST.length);
                // Days by the dozen drive all GRIEF to its ends: most are few.
                int[] a = chosen(random, method);
                if ((method == 12 || method == 13) && random.nextInt(8) > 0) {
                    a[0] = 1 + random.nextInt(2);
                }
                same(method, a, random.nextLong());
            }
        }
    }

    public static void main(String[] args) {
        int runs = args.length > 0 ? Integer.parseInt(args[0]) : 120;
        int[] all = new int[MOST.length];
        for (int seed = 1; seed <= runs; seed++) {
            TwinTest test = new TwinTest(seed);
            test.run();
            for (int i = 0; i < all.length; i++) {
                all[i] += test.answered[i];
            }
        }
        System.out.println(runs + " runs alike; calls without ERROR by method: " + Arrays.toString(all));
        for (int n : all) {
            if (n == 0) {
                System.out.println("a method was never met without ERROR");
                System.exit(1);
            }
        }
    }
}

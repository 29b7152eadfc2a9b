import java.util.Arrays;

/** A scullery girl who knows a house by its leavings; ../shared/DOC.md says what each call answers. */
public final class ScullerySweets {
    private static final int LOW = -1000000000;
    private static final int BEYOND = 1;
    private static final int NONE = 2;
    private static final int STATE = 3;
    private static final int FULL = 4;
    private static final int KIND = 5;
    private static final int SHEETS = 4;
    private static final int SHEET_MOST = 40;
    private static final int AHEAD_MOST = 60;
    private static final int LAST_DAY = 9999;
    private static final int ODDS_ROOMS = 10;

    private final Whole now;
    private final Whole kept;
    private final House thought;
    private final Laws laws;
    private final Reader reader;
    private final Voices voices;
    private final Sheet[] sheets;
    private final int[] told;
    private final int[] packed;
    private final int[] tastes;
    private int imagesTaken;

    public ScullerySweets() {
        now = new Whole();
        kept = new Whole();
        thought = new House();
        laws = new Laws(now.leftText, now.tasteText);
        reader = new Reader(now.tape);
        voices = new Voices();
        sheets = new Sheet[SHEETS];
        for (int i = 0; i < SHEETS; i++) {
            sheets[i] = new Sheet();
        }
        told = new int[KIND + 1];
        packed = new int[House.ROOM_MOST + 1];
        tastes = new int[Laws.TASTE_MOST + 1];
        imagesTaken = 0;
    }

    // ---- dishes, the house

    public int dish(int dish, int what, int v) {
        if (!isDish(dish) || !within(what, 0, 1) || !within(v, 0, 9)) {
            return error(BEYOND);
        }
        return replaced(what == 0 ? now.house.sweet : now.house.fat, dish, v);
    }

    public int ofDish(int dish, int what) {
        if (!isDish(dish) || !within(what, 0, 2)) {
            return error(BEYOND);
        }
        if (what == 0) {
            return now.house.sweet[dish];
        }
        return what == 1 ? now.house.fat[dish] : now.house.coursesOf(dish);
    }

    public int menu(int course, int dish) {
        if (!isCourse(course) || !(dish == -1 || isDish(dish))) {
            return error(BEYOND);
        }
        return dish == -1 ? now.house.served[course] : replaced(now.house.served, course, dish);
    }

    public int house(int what, int v) {
        if (!within(what, 0, 1) || !within(v, 0, what == 0 ? House.ROOM_MOST : House.PIGS_MOST)) {
            return error(BEYOND);
        }
        int was;
        if (what == 0) {
            was = now.house.room;
            now.house.room = v;
        } else {
            was = now.house.pigs;
            now.house.pigs = v;
        }
        return was;
    }

    // ---- diners

    public int diner(int km, int grief) {
        if (!isKindAndM(km) || !within(grief, 0, 9)) {
            return error(BEYOND);
        }
        if (now.house.diners >= House.DINERS_MOST) {
            return error(FULL);
        }
        return now.house.seat(km / 10, km % 10, grief);
    }

    public int ofDiner(int diner, int what) {
        if (!isDiner(diner) || !within(what, 0, 5 + House.COURSES)) {
            return error(BEYOND);
        }
        switch (what) {
            case 0:
                return now.house.kind[diner];
            case 1:
                return now.house.m[diner];
            case 2:
                return now.house.grief[diner];
            case 3:
                return now.house.loves[diner];
            case 4:
                return now.house.known[diner];
            case 5:
                return now.house.mendsOf(diner);
            default:
                return now.house.leftOf(laws, what - 6, diner);
        }
    }

    public int change(int diner, int what, int v) {
        if (!isDiner(diner) || !within(what, 0, 2)) {
            return error(BEYOND);
        }
        if (what == 0) {
            return within(v, 0, 9) ? replaced(now.house.grief, diner, v) : error(BEYOND);
        }
        if (what == 1) {
            return within(v, 0, House.DINERS_MOST - 1) ? replaced(now.house.loves, diner, v) : error(BEYOND);
        }
        return isKnown(v) ? replaced(now.house.known, diner, v) : error(BEYOND);
    }

    public int become(int diner, int km) {
        if (!isDiner(diner) || !isKindAndM(km)) {
            return error(BEYOND);
        }
        now.house.m[diner] = km % 10;
        return replaced(now.house.kind, diner, km / 10);
    }

    public int as(int diner, int kind) {
        if (!isDiner(diner) || !within(kind, 0, Kinds.LAST)) {
            return error(BEYOND);
        }
        return Kinds.isUnder(now.house.kind[diner], kind) ? now.house.m[diner] : error(KIND);
    }

    // ---- texts

    public int feed(long word, int n) {
        if (!within(n, 1, 8)) {
            return error(BEYOND);
        }
        if (now.tape.size + n > Whole.TAPE_MOST) {
            return error(FULL);
        }
        for (int i = 0; i < n; i++) {
            now.tape.add((int) (word >>> (8 * i)) & 255);
        }
        return now.tape.size;
    }

    public int text(int use) {
        if (!within(use, Laws.LEFT, Laws.TASTE)) {
            return error(BEYOND);
        }
        int fault = reader.faultFor(use);
        now.tape.size = 0;
        if (fault >= 0) {
            return -10 - fault;
        }
        now.textOf(use).copyFrom(reader.code);
        laws.forget();
        return 1;
    }

    public int law(int use, int a, int b, int c) {
        if (!within(use, Laws.LEFT, Laws.TASTE)) {
            return error(BEYOND);
        }
        return laws.workedOut(use, a, b, c);
    }

    // ---- days

    public int days(int n) {
        if (!within(n, 1, AHEAD_MOST)) {
            return error(BEYOND);
        }
        if (now.house.day + n > LAST_DAY) {
            return error(STATE);
        }
        now.house.spend(laws, n);
        return now.house.pigs;
    }

    public int loose(int n) {
        if (!within(n, 1, 40)) {
            return error(BEYOND);
        }
        if (now.house.day + n > LAST_DAY) {
            return error(STATE);
        }
        for (int i = 0; i < n; i++) {
            int course = now.draw() % House.COURSES;
            now.house.served[course] = now.draw() % House.DISHES;
            now.house.spend(laws, 1);
        }
        return now.house.pigs;
    }

    // ---- what would be

    public int then(int n, int diner, int what) {
        if (!isAhead(n) || !isDiner(diner) || !within(what, 0, 1)) {
            return error(BEYOND);
        }
        thinkAnew();
        thought.spend(laws, n);
        return what == 0 ? thought.grief[diner] : thought.known[diner];
    }

    public int out(int diner, int v) {
        if (!isDiner(diner) || !isKnown(v)) {
            return error(BEYOND);
        }
        thinkAnew();
        for (int n = 0; n <= AHEAD_MOST; n++) {
            if (thought.known[diner] >= v) {
                return n;
            }
            thought.spend(laws, 1);
        }
        return error(NONE);
    }

    public int first(int what) {
        if (!within(what, 0, 1)) {
            return error(BEYOND);
        }
        thinkAnew();
        for (int n = 0; n <= AHEAD_MOST; n++) {
            int who = thought.whoLeavesSweet(laws);
            if (who >= 0) {
                return what == 0 ? n : who;
            }
            thought.spend(laws, 1);
        }
        return error(NONE);
    }

    public int roomFor(int diner, int v, int n) {
        if (!isDiner(diner) || !isKnown(v) || !within(n, 0, 30)) {
            return error(BEYOND);
        }
        for (int room = 0; room <= House.ROOM_MOST; room++) {
            thinkAnew();
            thought.room = room;
            thought.spend(laws, n);
            if (thought.known[diner] >= v) {
                return room;
            }
        }
        return error(NONE);
    }

    public int best(int course, int n, int what) {
        if (!isCourse(course) || !within(n, 0, 20) || !within(what, 0, 1)) {
            return error(BEYOND);
        }
        int bestDish = -1;
        int bestKnown = -1;
        for (int dish = 0; dish < House.DISHES; dish++) {
            thinkAnew();
            thought.served[course] = dish;
            thought.spend(laws, n);
            int known = thought.knownOfAll();
            if (known > bestKnown) {
                bestKnown = known;
                bestDish = dish;
            }
        }
        return what == 0 ? bestDish : bestKnown;
    }

    public int swap(int n) {
        if (!within(n, 0, 20)) {
            return error(BEYOND);
        }
        thinkAnew();
        thought.spend(laws, n);
        int most = thought.knownOfAll();
        int pair = -1;
        for (int lesser = 0; lesser < House.COURSES; lesser++) {
            for (int other = lesser + 1; other < House.COURSES; other++) {
                thinkAnew();
                thought.served[lesser] = now.house.served[other];
                thought.served[other] = now.house.served[lesser];
                thought.spend(laws, n);
                if (thought.knownOfAll() > most) {
                    most = thought.knownOfAll();
                    pair = 10 * lesser + other;
                }
            }
        }
        return pair;
    }

    public int whose(int sheet, int diner, int what) {
        if (!isSheet(sheet) || !isDiner(diner) || !within(what, 0, 1)) {
            return error(BEYOND);
        }
        if (sheets[sheet].bits == 0) {
            return error(NONE);
        }
        thinkAnew();
        int many = 0;
        for (int kind = 0; kind <= Kinds.LAST; kind++) {
            for (int grief = 0; grief <= 9; grief++) {
                if (fitsLeavings(sheets[sheet], diner, kind, grief)) {
                    if (what == 1) {
                        return 10 * kind + grief;
                    }
                    many++;
                }
            }
        }
        return what == 0 ? many : error(NONE);
    }

    public int loved(int sheet, int diner) {
        if (!isSheet(sheet) || !isDiner(diner)) {
            return error(BEYOND);
        }
        Sheet griefs = sheets[sheet];
        if (griefs.bits == 0) {
            return error(NONE);
        }
        int set = 0;
        for (int whom = 0; whom < House.DINERS_MOST; whom++) {
            thinkAnew();
            thought.loves[diner] = whom;
            boolean so = true;
            for (int i = 0; so && i < griefs.size; i++) {
                thought.spend(laws, 1);
                so = thought.grief[diner] == griefs.numbers[i];
            }
            if (so) {
                set |= 1 << whom;
            }
        }
        return set;
    }

    public int pack(int room) {
        if (!within(room, 0, House.ROOM_MOST)) {
            return error(BEYOND);
        }
        Arrays.fill(packed, 0);
        for (int course = 0; course < House.COURSES; course++) {
            for (int diner = 0; diner < now.house.diners; diner++) {
                int left = now.house.leftOf(laws, course, diner);
                if (left > 0) {
                    addToPack(room, left, now.house.tasteOf(laws, course, diner, left));
                }
            }
        }
        return packed[room];
    }

    public int few(int v) {
        if (!within(v, 0, 999)) {
            return error(BEYOND);
        }
        countTastes();
        int plates = 0;
        int sum = 0;
        for (int taste = Laws.TASTE_MOST; taste > 0; taste--) {
            for (int i = 0; i < tastes[taste] && sum < v; i++) {
                sum += taste;
                plates++;
            }
        }
        return sum >= v ? plates : error(NONE);
    }

    public int broken(int n) {
        if (!isAhead(n)) {
            return error(BEYOND);
        }
        thinkAnew();
        thought.spend(laws, n);
        int set = 0;
        for (int diner = 0; diner < thought.diners; diner++) {
            if (thought.grief[diner] == 9) {
                set |= 1 << diner;
            }
        }
        return set;
    }

    public int swill(int n) {
        if (!isAhead(n)) {
            return error(BEYOND);
        }
        thinkAnew();
        thought.spend(laws, n);
        return thought.pigs - now.house.pigs;
    }

    public int cheer(int diner, int q) {
        if (!isDiner(diner) || !within(q, 0, 24)) {
            return error(BEYOND);
        }
        thinkAnew();
        for (int grief = 9; grief >= 0; grief--) {
            thought.grief[diner] = grief;
            if (thought.leftOfAll(laws, diner) <= q) {
                return grief;
            }
        }
        return error(NONE);
    }

    public int odds(int diner, int n, int v, int part) {
        if (!isDiner(diner) || !within(n, 0, 30) || !isKnown(v) || !within(part, 0, 1)) {
            return error(BEYOND);
        }
        int above = 0;
        for (int i = 0; i < ODDS_ROOMS; i++) {
            thinkAnew();
            thought.room = 4 * i;
            thought.spend(laws, n);
            if (thought.known[diner] >= v) {
                above++;
            }
        }
        int divisor = Math.max(1, commonDivisor(above, ODDS_ROOMS));
        return (part == 0 ? above : ODDS_ROOMS) / divisor;
    }

    // ---- draws, voices, sheets, images, what is told

    public int seed(int v) {
        int was = now.z;
        now.z = v;
        return was;
    }

    public int voice(int diner, int act, int x) {
        if (!isDiner(diner) || !within(act, 0, 3)) {
            return error(BEYOND);
        }
        return voices.raised(diner, now.house.m[diner], now.house.kind[diner], act, x);
    }

    public int trace(int i) {
        return within(i, 0, voices.begun.size - 1) ? voices.begun.at[i] : error(NONE);
    }

    public int sheet(int sheet, int bits, int n) {
        if (!isSheet(sheet) || !(bits == 0 || bits == 8 || bits == 16 || bits == 32)) {
            return error(BEYOND);
        }
        if (bits != 0 && n < 0) {
            return error(STATE);
        }
        if (bits != 0 && n > SHEET_MOST) {
            return error(BEYOND);
        }
        sheets[sheet].lay(bits, bits == 0 ? 0 : n);
        return 1;
    }

    public int put(int sheet, int i, int v) {
        if (!isSheet(sheet)) {
            return error(BEYOND);
        }
        if (sheets[sheet].bits == 0) {
            return error(NONE);
        }
        if (!within(i, 0, sheets[sheet].size - 1)) {
            return error(BEYOND);
        }
        sheets[sheet].write(i, v);
        return 1;
    }

    public int move(int sheet, int i, int other, int j, int n) {
        if (!isSheet(sheet) || !isSheet(other)) {
            return error(BEYOND);
        }
        Sheet from = sheets[sheet];
        Sheet to = sheets[other];
        if (from.bits == 0 || to.bits == 0) {
            return error(NONE);
        }
        if (from.bits != to.bits) {
            return error(KIND);
        }
        if (!from.holds(i, n) || !to.holds(j, n)) {
            return error(BEYOND);
        }
        System.arraycopy(from.numbers, i, to.numbers, j, n);
        return n;
    }

    public int menus(int sheet) {
        if (!isSheet(sheet)) {
            return error(BEYOND);
        }
        Sheet from = sheets[sheet];
        if (from.bits == 0) {
            return error(NONE);
        }
        int many = 0;
        for (int i = 0; i < from.size && isCourse(i) && isDish(from.numbers[i]); i++) {
            now.house.served[i] = from.numbers[i];
            many++;
        }
        return many;
    }

    public int judge(int sheet) {
        if (!isSheet(sheet)) {
            return error(BEYOND);
        }
        Sheet from = sheets[sheet];
        if (from.bits == 0) {
            return error(NONE);
        }
        int both = Math.min(from.size, now.house.diners);
        for (int i = 0; i < both; i++) {
            if (from.numbers[i] != now.house.grief[i]) {
                return i;
            }
        }
        return from.size == now.house.diners ? -1 : both;
    }

    public int image() {
        kept.copyFrom(now);
        imagesTaken++;
        return imagesTaken;
    }

    public int restore() {
        if (imagesTaken == 0) {
            return error(NONE);
        }
        now.copyFrom(kept);
        laws.forget();
        return now.house.day;
    }

    public int tell(int v) {
        if (now.waiting.size >= Whole.WAITING_MOST) {
            return error(FULL);
        }
        now.waiting.add(v);
        return now.waiting.size;
    }

    public int check() {
        int waited = now.waiting.size;
        now.waiting.size = 0;
        thinkAnew();
        for (int i = 0; i < waited; i++) {
            thought.spend(laws, 1);
            if (thought.pigs != now.waiting.at[i]) {
                return 1 + i;
            }
        }
        return 0;
    }

    public int count(int what) {
        switch (what) {
            case 0:
                return now.house.diners;
            case 1:
                return now.house.day;
            case 2:
                return now.house.room;
            case 3:
                return now.house.pigs;
            case 4:
                return now.house.griefOfAll();
            case 5:
                return now.house.knownOfAll();
            case 6:
                return now.house.sweetOfAll();
            case 7:
                return now.tape.size;
            case 8:
                return now.waiting.size;
            case 9:
                return voices.begun.size;
            case 10:
                return now.z;
            default:
                return error(BEYOND);
        }
    }

    public int told(int k) {
        return within(k, BEYOND, KIND) ? told[k] : error(BEYOND);
    }

    // ---- what the calls share

    private int error(int k) {
        told[k]++;
        return LOW - k;
    }

    private static boolean within(int v, int least, int most) {
        return v >= least && v <= most;
    }

    private static boolean isDish(int v) {
        return within(v, 0, House.DISHES - 1);
    }

    private static boolean isCourse(int v) {
        return within(v, 0, House.COURSES - 1);
    }

    private static boolean isKindAndM(int v) {
        return within(v, 0, 10 * Kinds.LAST + 9);
    }

    private static boolean isKnown(int v) {
        return within(v, 0, House.KNOWN_MOST);
    }

    private static boolean isAhead(int n) {
        return within(n, 0, AHEAD_MOST);
    }

    private static boolean isSheet(int v) {
        return within(v, 0, SHEETS - 1);
    }

    private boolean isDiner(int v) {
        return within(v, 0, now.house.diners - 1);
    }

    private static int replaced(int[] row, int i, int v) {
        int was = row[i];
        row[i] = v;
        return was;
    }

    private void thinkAnew() {
        thought.copyFrom(now.house);
    }

    private boolean fitsLeavings(Sheet sheet, int diner, int kind, int grief) {
        // A number past the last COURSE tells of a plate that never was, so nobody fits it.
        if (sheet.size > House.COURSES) {
            return false;
        }
        thought.kind[diner] = kind;
        thought.grief[diner] = grief;
        for (int course = 0; course < sheet.size; course++) {
            if (thought.leftOf(laws, course, diner) != sheet.numbers[course]) {
                return false;
            }
        }
        return true;
    }

    private void addToPack(int room, int left, int taste) {
        // Downward, so that no plate is eaten twice.
        for (int filled = room; filled >= left; filled--) {
            packed[filled] = Math.max(packed[filled], packed[filled - left] + taste);
        }
    }

    private void countTastes() {
        Arrays.fill(tastes, 0);
        for (int course = 0; course < House.COURSES; course++) {
            for (int diner = 0; diner < now.house.diners; diner++) {
                int left = now.house.leftOf(laws, course, diner);
                if (left > 0) {
                    tastes[now.house.tasteOf(laws, course, diner, left)]++;
                }
            }
        }
    }

    private static int commonDivisor(int above, int below) {
        for (int d = below; d > 1; d--) {
            if (above % d == 0 && below % d == 0) {
                return d;
            }
        }
        return 1;
    }

    /** The seven KINDS, what each LEAVES and MENDS. */
    private static final class Kinds {
        static final int LAST = 6;
        static final int COLONEL = 1;
        static final int LADY = 2;
        static final int SUBALTERN = 3;
        static final int GENERAL = 4;
        static final int DUCHESS = 5;
        static final int CADET = 6;
        private static final int[] ABOVE = {-1, 0, 0, 0, 1, 2, 3};

        private Kinds() {
        }

        static int above(int kind) {
            return kind >= 0 && kind <= LAST ? ABOVE[kind] : -1;
        }

        static boolean isUnder(int kind, int top) {
            int at = kind;
            for (int i = 0; i <= LAST && at >= 0; i++) {
                if (at == top) {
                    return true;
                }
                at = above(at);
            }
            return false;
        }

        static int leaves(int kind, int m, int sweet, int fat, int grief, int day) {
            int plain = grief / 3 + (fat > 5 ? 1 : 0);
            switch (kind) {
                case COLONEL:
                    return grief / 2;
                case GENERAL:
                    return grief / 2 - 1;
                case LADY:
                    return asLady(plain, sweet);
                case DUCHESS:
                    return day % 2 != 0 && m > grief ? 4 : asLady(plain, sweet);
                case SUBALTERN:
                    return asSubaltern(plain, sweet, grief);
                case CADET:
                    return asSubaltern(plain, sweet, grief) + m / 3;
                default:
                    return plain;
            }
        }

        private static int asLady(int plain, int sweet) {
            return plain + (sweet > 5 ? 1 : 0);
        }

        private static int asSubaltern(int plain, int sweet, int grief) {
            return sweet + grief > 9 ? 4 : plain;
        }

        static int mends(int kind, int m, int day) {
            switch (kind) {
                case COLONEL:
                case GENERAL:
                    return day % 2 == 0 ? 0 : 1;
                case SUBALTERN:
                    return 0;
                case DUCHESS:
                    return 2;
                case CADET:
                    return m % 2 == 0 ? 1 : 0;
                default:
                    return 1;
            }
        }
    }

    /** Dishes, menu, room, pigs, day and diners: all that a DAY reads or changes. */
    private static final class House {
        static final int DISHES = 16;
        static final int COURSES = 6;
        static final int SWEET_COURSE = 5;
        static final int DINERS_MOST = 8;
        static final int ROOM_MOST = 40;
        static final int PIGS_MOST = 99999;
        static final int KNOWN_MOST = 99;

        final int[] sweet = new int[DISHES];
        final int[] fat = new int[DISHES];
        final int[] served = new int[COURSES];
        final int[] kind = new int[DINERS_MOST];
        final int[] m = new int[DINERS_MOST];
        final int[] grief = new int[DINERS_MOST];
        final int[] loves = new int[DINERS_MOST];
        final int[] known = new int[DINERS_MOST];
        // GRIEF changes after the dinner, so what was LEFT of the sweet is written down at table.
        private final int[] sweetLeft = new int[DINERS_MOST];
        int room = 12;
        int pigs = 0;
        int day = 0;
        int diners = 0;

        House() {
            for (int i = 0; i < DISHES; i++) {
                sweet[i] = i % 10;
                fat[i] = 3;
            }
            for (int i = 0; i < COURSES; i++) {
                served[i] = i;
            }
        }

        void copyFrom(House other) {
            System.arraycopy(other.sweet, 0, sweet, 0, DISHES);
            System.arraycopy(other.fat, 0, fat, 0, DISHES);
            System.arraycopy(other.served, 0, served, 0, COURSES);
            System.arraycopy(other.kind, 0, kind, 0, DINERS_MOST);
            System.arraycopy(other.m, 0, m, 0, DINERS_MOST);
            System.arraycopy(other.grief, 0, grief, 0, DINERS_MOST);
            System.arraycopy(other.loves, 0, loves, 0, DINERS_MOST);
            System.arraycopy(other.known, 0, known, 0, DINERS_MOST);
            room = other.room;
            pigs = other.pigs;
            day = other.day;
            diners = other.diners;
        }

        /** Takes a place that the caller has seen to be free. */
        int seat(int itsKind, int itsM, int itsGrief) {
            int number = diners;
            kind[number] = itsKind;
            m[number] = itsM;
            grief[number] = itsGrief;
            loves[number] = number;
            known[number] = 0;
            diners++;
            return number;
        }

        int coursesOf(int dish) {
            int set = 0;
            for (int course = 0; course < COURSES; course++) {
                if (served[course] == dish) {
                    set |= 1 << course;
                }
            }
            return set;
        }

        int mendsOf(int diner) {
            return Kinds.mends(kind[diner], m[diner], day);
        }

        int leftOf(Laws laws, int course, int diner) {
            int s = sweet[served[course]];
            int g = grief[diner];
            int l = Kinds.leaves(kind[diner], m[diner], s, fat[served[course]], g, day);
            return laws.given(Laws.LEFT, l, s, g);
        }

        int tasteOf(Laws laws, int course, int diner, int eaten) {
            return laws.given(Laws.TASTE, eaten, sweet[served[course]], grief[diner]);
        }

        int leftOfAll(Laws laws, int diner) {
            int sum = 0;
            for (int course = 0; course < COURSES; course++) {
                sum += leftOf(laws, course, diner);
            }
            return sum;
        }

        int whoLeavesSweet(Laws laws) {
            for (int diner = 0; diner < diners; diner++) {
                if (leftOf(laws, SWEET_COURSE, diner) == 4) {
                    return diner;
                }
            }
            return -1;
        }

        void spend(Laws laws, int n) {
            for (int i = 0; i < n; i++) {
                dine(laws);
                grieve();
                day++;
            }
        }

        private void dine(Laws laws) {
            int roomYet = room;
            for (int course = 0; course < COURSES; course++) {
                for (int diner = 0; diner < diners; diner++) {
                    int left = leftOf(laws, course, diner);
                    int eaten = Math.min(left, roomYet);
                    roomYet -= eaten;
                    if (eaten > 0) {
                        int more = known[diner] + tasteOf(laws, course, diner, eaten);
                        known[diner] = Math.min(KNOWN_MOST, more);
                    }
                    pigs = Math.min(PIGS_MOST, pigs + left - eaten);
                    // The last COURSE is written last, and it is the sweet.
                    sweetLeft[diner] = left;
                }
            }
        }

        private void grieve() {
            for (int diner = 0; diner < diners; diner++) {
                int loved = loves[diner];
                if (loved != diner && loved < diners && sweetLeft[loved] == 4) {
                    grief[diner] = Math.min(9, grief[diner] + 1);
                } else {
                    grief[diner] = Math.max(0, grief[diner] - mendsOf(diner));
                }
            }
        }

        int griefOfAll() {
            int sum = 0;
            for (int diner = 0; diner < diners; diner++) {
                sum += grief[diner];
            }
            return sum;
        }

        int knownOfAll() {
            int sum = 0;
            for (int diner = 0; diner < diners; diner++) {
                sum += known[diner];
            }
            return sum;
        }

        int sweetOfAll() {
            int sum = 0;
            for (int dish = 0; dish < DISHES; dish++) {
                sum += sweet[dish];
            }
            return sum;
        }
    }

    /** All that an IMAGE keeps. */
    private static final class Whole {
        static final int TAPE_MOST = 50;
        static final int WAITING_MOST = 20;

        final House house = new House();
        final Row tape = new Row(TAPE_MOST);
        final Row waiting = new Row(WAITING_MOST);
        final Row leftText = new Row(TAPE_MOST);
        final Row tasteText = new Row(TAPE_MOST);
        int z = 1;

        void copyFrom(Whole other) {
            house.copyFrom(other.house);
            tape.copyFrom(other.tape);
            waiting.copyFrom(other.waiting);
            leftText.copyFrom(other.leftText);
            tasteText.copyFrom(other.tasteText);
            z = other.z;
        }

        Row textOf(int use) {
            return use == Laws.LEFT ? leftText : tasteText;
        }

        int draw() {
            z = z * 1103515245 + 12345;
            return z >>> 8;
        }
    }

    /** Numbers one behind the other, up to a length that is fixed when it is made. */
    private static final class Row {
        final int[] at;
        int size = 0;

        Row(int most) {
            at = new int[Math.max(0, most)];
        }

        void add(int v) {
            if (size < at.length) {
                at[size] = v;
                size++;
            }
        }

        void copyFrom(Row other) {
            size = Math.min(other.size, at.length);
            System.arraycopy(other.at, 0, at, 0, size);
        }
    }

    /** A SHEET; of 0 bits it is missing. */
    private static final class Sheet {
        final int[] numbers = new int[SHEET_MOST];
        int size = 0;
        int bits = 0;

        void lay(int itsBits, int itsSize) {
            bits = itsBits;
            size = itsSize;
            Arrays.fill(numbers, 0);
        }

        void write(int i, int v) {
            numbers[i] = bits == 32 ? v : v & ((1 << bits) - 1);
        }

        boolean holds(int from, int n) {
            return n >= 0 && from >= 0 && from <= size - n;
        }
    }

    /** Reads a TEXT from THE TAPE into codes, operands ahead of what is done with them. */
    private static final class Reader {
        private static final int OPEN_MOST = 5;
        private static final int DIGITS_MOST = 4;
        private static final int LOOSEST = 0;
        private static final int COMPARED = 2;
        private static final int TIGHTEST = 4;

        final Row code = new Row(Whole.TAPE_MOST);
        private final Row tape;
        private int use = 0;
        private int place = 0;
        private boolean failed = false;

        Reader(Row tape) {
            this.tape = tape;
        }

        /** The FAULT, or -1; nothing moves on once it has failed, so the place is that of the FAULT. */
        int faultFor(int itsUse) {
            use = itsUse;
            place = 0;
            failed = false;
            code.size = 0;
            readLevel(LOOSEST, 0);
            return failed || place < tape.size ? place : -1;
        }

        private int sign() {
            return place < tape.size ? tape.at[place] : -1;
        }

        private boolean stands(char c) {
            return !failed && sign() == c;
        }

        private void readLevel(int level, int open) {
            if (level > TIGHTEST) {
                readSingle(open);
                return;
            }
            readLevel(level + 1, open);
            int most = level == COMPARED ? 1 : Whole.TAPE_MOST;
            for (int i = 0; i < most && !failed && levelOf(sign()) == level; i++) {
                int sign = sign();
                place++;
                readLevel(level + 1, open);
                code.add(-sign);
            }
        }

        private static int levelOf(int sign) {
            switch (sign) {
                case '|':
                    return LOOSEST;
                case '&':
                    return 1;
                case '<':
                case '=':
                case '>':
                    return COMPARED;
                case '+':
                case '-':
                    return 3;
                case '*':
                case '/':
                case '%':
                    return TIGHTEST;
                default:
                    return -1;
            }
        }

        private void readSingle(int open) {
            if (stands('!') || stands('(')) {
                readOpened(open);
            } else if (isDigit()) {
                readNumber();
            } else {
                readName();
            }
        }

        private void readOpened(int open) {
            if (open >= OPEN_MOST) {
                failed = true;
                return;
            }
            int sign = sign();
            place++;
            if (sign == '!') {
                readSingle(open + 1);
                code.add(-'!');
                return;
            }
            readLevel(LOOSEST, open + 1);
            if (stands(')')) {
                place++;
            } else {
                failed = true;
            }
        }

        private boolean isDigit() {
            return sign() >= '0' && sign() <= '9';
        }

        private void readNumber() {
            int v = 0;
            for (int i = 0; i < DIGITS_MOST && isDigit(); i++) {
                v = v * 10 + sign() - '0';
                place++;
            }
            code.add(v);
        }

        private void readName() {
            if (stands(use == Laws.LEFT ? 'l' : 'e')) {
                code.add(Laws.NAME_A);
            } else if (stands('s')) {
                code.add(Laws.NAME_B);
            } else if (stands('g')) {
                code.add(Laws.NAME_C);
            } else {
                failed = true;
                return;
            }
            place++;
        }
    }

    /** What the two USES give: codes from 0 on are numbers, NAMES are -1 to -3, signs are below that. */
    private static final class Laws {
        static final int LEFT = 0;
        static final int TASTE = 1;
        static final int LEFT_MOST = 4;
        static final int TASTE_MOST = 9;
        static final int NAME_A = -1;
        static final int NAME_B = -2;
        static final int NAME_C = -3;
        private static final int A_LEAST = -1;
        private static final int A_MOST = 7;
        private static final int A_MANY = A_MOST - A_LEAST + 1;

        private final Row leftText;
        private final Row tasteText;
        private final int[] stack = new int[Whole.TAPE_MOST];
        // A house has few plates that differ, and thinking ahead meets each thousands of times.
        private final byte[] found = new byte[2 * A_MANY * 100];

        Laws(Row leftText, Row tasteText) {
            this.leftText = leftText;
            this.tasteText = tasteText;
            Arrays.fill(found, (byte) -1);
        }

        void forget() {
            Arrays.fill(found, (byte) -1);
        }

        /** As workedOut, for SWEET and GRIEF of 0 to 9. */
        int given(int use, int a, int sweet, int grief) {
            int i = ((use * A_MANY + a - A_LEAST) * 10 + sweet) * 10 + grief;
            if (a < A_LEAST || a > A_MOST || i < 0 || i >= found.length) {
                return workedOut(use, a, sweet, grief);
            }
            if (found[i] < 0) {
                found[i] = (byte) workedOut(use, a, sweet, grief);
            }
            return found[i];
        }

        int workedOut(int use, int a, int b, int c) {
            Row text = use == LEFT ? leftText : tasteText;
            int top = 0;
            for (int i = 0; i < text.size; i++) {
                int code = text.at[i];
                if (code >= NAME_C && top < stack.length) {
                    stack[top] = operand(code, a, b, c);
                    top++;
                } else if (code == -'!' && top >= 1) {
                    stack[top - 1] = stack[top - 1] == 0 ? 1 : 0;
                } else if (top >= 2) {
                    top--;
                    stack[top - 1] = joined(-code, stack[top - 1], stack[top]);
                }
            }
            int v = top > 0 ? stack[top - 1] : a;
            return Math.max(0, Math.min(use == LEFT ? LEFT_MOST : TASTE_MOST, v));
        }

        private static int operand(int code, int a, int b, int c) {
            switch (code) {
                case NAME_A:
                    return a;
                case NAME_B:
                    return b;
                case NAME_C:
                    return c;
                default:
                    return code;
            }
        }

        private static int joined(int sign, int x, int y) {
            switch (sign) {
                case '|':
                    return x != 0 || y != 0 ? 1 : 0;
                case '&':
                    return x != 0 && y != 0 ? 1 : 0;
                case '<':
                    return x < y ? 1 : 0;
                case '=':
                    return x == y ? 1 : 0;
                case '>':
                    return x > y ? 1 : 0;
                case '+':
                    return x + y;
                case '-':
                    return x - y;
                case '*':
                    return x * y;
                case '/':
                    return y == 0 ? 0 : x / y;
                default:
                    return y == 0 ? 0 : x % y;
            }
        }
    }

    /** The VOICES of one DINER at a time, and THE TRACE of the latest. */
    private static final class Voices {
        static final int TRACE_MOST = 40;
        static final int LEAVES = 0;
        static final int MENDS = 1;
        static final int GRIEVES = 2;
        static final int TELLS = 3;
        private static final int DEPTH_MOST = 30;
        // By KIND, then by act; 0 where a KIND has no BODY of its own.
        private static final int[] BODIES = {
            10, 11, 12, 13,
            20, 0, 0, 0,
            0, 30, 0, 0,
            0, 0, 40, 0,
            0, 0, 0, 50,
            0, 60, 0, 0,
            0, 0, 70, 71,
        };

        final Row begun = new Row(TRACE_MOST);
        private int number = 0;
        private int m = 0;
        private int kind = 0;

        int raised(int itsNumber, int itsM, int itsKind, int act, int x) {
            number = itsNumber;
            m = itsM;
            kind = itsKind;
            begun.size = 0;
            return say(act, x, 0);
        }

        private int say(int act, int x, int depth) {
            return sayFrom(kind, act, x, depth);
        }

        private int sayAbove(int below, int act, int x, int depth) {
            return sayFrom(Kinds.above(below), act, x, depth);
        }

        private int sayFrom(int lowest, int act, int x, int depth) {
            int at = lowest;
            for (int i = 0; i <= Kinds.LAST && at >= 0 && depth < DEPTH_MOST; i++) {
                int body = BODIES[at * 4 + act];
                if (body != 0) {
                    begun.add(body);
                    return spoken(body, x, depth + 1);
                }
                at = Kinds.above(at);
            }
            return 0;
        }

        private int spoken(int body, int x, int depth) {
            switch (body) {
                case 10:
                    return x + number;
                case 11:
                    return say(LEAVES, x, depth) * 2;
                case 12:
                    return x - m;
                case 13:
                    return say(MENDS, x, depth) ^ say(GRIEVES, x, depth);
                case 20:
                    return sayAbove(Kinds.COLONEL, LEAVES, x, depth) * 3;
                case 30:
                    return sayAbove(Kinds.LADY, MENDS, x, depth) - say(GRIEVES, 1, depth);
                case 40:
                    return -sayAbove(Kinds.SUBALTERN, GRIEVES, x, depth);
                case 50:
                    return sayAbove(Kinds.GENERAL, TELLS, x, depth) - say(LEAVES, 2, depth);
                case 60:
                    return sayAbove(Kinds.DUCHESS, MENDS, x + 1, depth);
                case 70:
                    return sayAbove(Kinds.CADET, GRIEVES, x, depth) ^ number;
                case 71:
                    return say(MENDS, x, depth) - sayAbove(Kinds.CADET, TELLS, x, depth);
                default:
                    return 0;
            }
        }
    }
}

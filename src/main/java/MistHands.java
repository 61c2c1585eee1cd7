import java.util.Arrays;

/**
 * Mist in a valley of twelve by twelve cells: cold that runs down, mist by a law that is a text,
 * roads by sight, and nights that were. What each call promises stands in the document, DOC.md.
 */
public final class MistHands {
    /** There is none. */
    public static final int NONE = -1;

    /** Asked rightly, but there is no mist, no way, no such night. */
    private static final int NOTHING = -2;

    private static final int SIDE = 12;
    private static final int CELLS = 144;
    private static final int TREES = 2;
    private static final int SORTS = 5;
    private static final int MOST_GROUND = 99;
    private static final int MOST_AIR = 9999;
    private static final int WINDS = 100;
    private static final int MOST_WIND = 9;
    private static final int MOST_STEPS = 60;
    private static final int MOST_DAM_STEPS = 20;
    private static final int MOST_HEIGHT = 198;
    private static final int SEEDS = 65536;
    private static final int NODES = 10;
    private static final int ROADS = 20;
    private static final int ROAD_STEPS = 30;
    private static final int STEP_MINUTES = 10;
    private static final int LAST_MINUTE = 300;
    private static final int NIGHTS = 60;
    private static final int MOST_TILL = 999;
    private static final int MOST_PRICE = 999;
    private static final int MOST_MINUTE_PRICE = 99;
    private static final int FIRST_WIND_COUNT = 100;

    private final Valley valley;
    private final Valley kept;
    private final Valley trial;
    private final Flow flow;
    private final Sight sight;
    private final Roads roads;
    private final Nights nights;
    private final Lid cover;
    private final Tape tape;
    private final Reader reader;
    private final int[] coldWithout;
    private Law rules;
    private Law spareRules;
    private boolean anyKept;

    public MistHands() {
        valley = new Valley();
        kept = new Valley();
        trial = new Valley();
        flow = new Flow();
        sight = new Sight();
        roads = new Roads();
        nights = new Nights();
        cover = new Lid();
        tape = new Tape();
        coldWithout = new int[CELLS];
        rules = new Law();
        spareRules = new Law();
        reader = new Reader(tape.bytes, spareRules);
        anyKept = false;
    }

    public boolean ground(int x, int y, int hands, int sort) {
        if (!isPlace(x, y) || !isWithin(hands, MOST_GROUND) || !isWithin(sort, SORTS - 1)) {
            return false;
        }
        int number = SIDE * y + x;
        valley.hands[number] = hands;
        valley.sorts[number] = sort;
        return true;
    }

    public boolean air(int x, int y, int cold, int water) {
        if (!isPlace(x, y) || !isWithin(cold, MOST_AIR) || !isWithin(water, MOST_AIR)) {
            return false;
        }
        int number = SIDE * y + x;
        valley.colds[number] = cold;
        valley.waters[number] = water;
        return true;
    }

    public boolean wind(int step, int n) {
        if (!isWithin(step, WINDS - 1) || !isWithin(n, MOST_WIND)) {
            return false;
        }
        valley.winds[step] = n;
        return true;
    }

    public int feed(int a, int b, int c, int d, int e) {
        if (tape.size > Tape.ROOM - Tape.MEAL) {
            return NONE;
        }
        tape.put(a);
        tape.put(b);
        tape.put(c);
        tape.put(d);
        tape.put(e);
        return tape.size;
    }

    public int law(int n) {
        if (n < 1 || n > Law.TEXT || n > tape.size) {
            return NONE;
        }
        int answer = reader.read(n, spareRules);
        tape.size = 0;
        if (answer > 0) {
            Law before = rules;
            rules = spareRules;
            spareRules = before;
        }
        return answer;
    }

    public int steps(int n) {
        if (!isNight(n)) {
            return NONE;
        }
        int before = valley.ran;
        for (int s = 0; s < n; s++) {
            flow.pass(valley, rules);
        }
        return valley.ran - before;
    }

    public int cell(int x, int y, int what) {
        if (!isPlace(x, y)) {
            return NONE;
        }
        int number = SIDE * y + x;
        switch (what) {
            case 0:
                return valley.hands[number];
            case 1:
                return valley.sorts[number];
            case 2:
                return valley.colds[number];
            case 3:
                return valley.waters[number];
            case 4:
                return rules.mist(valley, number);
            case 5:
                return orNothing(rules.top(valley, number));
            case 6:
                return rules.yards(valley, number);
            case 7:
                return valley.level(number);
            default:
                return NONE;
        }
    }

    public int sums(int what) {
        switch (what) {
            case 0:
                return sumOf(valley.colds);
            case 1:
                return sumOf(valley.waters);
            case 2:
                return valley.ran;
            case 3:
                sight.look(valley, rules);
                return sight.misty;
            case 4:
                sight.look(valley, rules);
                return sight.highest;
            default:
                return NONE;
        }
    }

    public int night(int n, int what) {
        if (!isNight(n) || !isWithin(what, 4)) {
            return NONE;
        }
        int highest = NOTHING;
        int highestStep = NOTHING;
        int firstCell = NOTHING;
        int firstStep = NOTHING;
        int mistySteps = 0;
        trial.copyFrom(valley);
        for (int s = 0; s < n; s++) {
            flow.pass(trial, rules);
            sight.look(trial, rules);
            if (sight.misty == 0) {
                continue;
            }
            if (mistySteps == 0) {
                firstCell = sight.first;
                firstStep = trial.step;
            }
            mistySteps++;
            if (sight.highest > highest) {
                highest = sight.highest;
                highestStep = trial.step;
            }
        }
        switch (what) {
            case 0:
                return highest;
            case 1:
                return highestStep;
            case 2:
                return firstCell;
            case 3:
                return firstStep;
            default:
                return mistySteps;
        }
    }

    public int sun(int x, int y, int height, int n) {
        if (!isPlace(x, y) || !isNight(n) || height > MOST_HEIGHT) {
            return NONE;
        }
        int number = SIDE * y + x;
        if (height < valley.hands[number]) {
            return NONE;
        }
        int sunny = 0;
        trial.copyFrom(valley);
        for (int s = 0; s < n; s++) {
            flow.pass(trial, rules);
            if (height >= rules.top(trial, number)) {
                sunny++;
            }
        }
        return sunny;
    }

    public int band(int n, int f) {
        if (!isNight(n) || f < 1 || f > MOST_AIR) {
            return NONE;
        }
        int least = 0;
        trial.copyFrom(valley);
        for (int s = 0; s < n; s++) {
            flow.pass(trial, rules);
            least = Math.max(least, heightFreeOf(f));
        }
        return least > MOST_GROUND ? NOTHING : least;
    }

    public int works(int x, int y, int n, int what) {
        if (!isPlace(x, y) || !isNight(n) || !isWithin(what, 3)) {
            return NONE;
        }
        int number = SIDE * y + x;
        if (valley.sorts[number] == TREES) {
            return NONE;
        }
        passTrial(n, NONE);
        System.arraycopy(trial.colds, 0, coldWithout, 0, CELLS);
        passTrial(n, number);
        return tellWorks(what);
    }

    public int dam(int cell, int n, int what) {
        if (!isWithin(cell, CELLS - 1) || n < 1 || n > MOST_DAM_STEPS || !isWithin(what, 1)) {
            return NONE;
        }
        int best = NOTHING;
        int least = MOST_AIR + 1;
        // No cold is below 0: behind a 0 no later cell can be better.
        for (int number = 0; number < CELLS && least > 0; number++) {
            if (number == cell) {
                continue;
            }
            passTrial(n, number);
            if (trial.colds[cell] < least) {
                best = number;
                least = trial.colds[cell];
            }
        }
        return what == 0 ? best : least;
    }

    public boolean road(int i, int a, int b, int length, int cell) {
        if (!isWithin(i, ROADS - 1) || !isWithin(a, NODES - 1) || !isWithin(b, NODES - 1) || a == b) {
            return false;
        }
        if (length < 1 || length > Roads.MOST_LENGTH || !isWithin(cell, CELLS - 1)) {
            return false;
        }
        roads.ends[i] = 1 << a | 1 << b;
        roads.lengths[i] = length;
        roads.cells[i] = cell;
        roads.told |= 1 << i;
        return true;
    }

    public int soonest(int from, int to, int minute, int what) {
        if (!isWithin(from, NODES - 1) || !isWithin(to, NODES - 1)
                || !isWithin(minute, LAST_MINUTE - 1) || !isWithin(what, 1)) {
            return NONE;
        }
        roads.leave(from, minute);
        trial.copyFrom(valley);
        for (int s = 0; s < ROAD_STEPS; s++) {
            roads.look(trial, rules);
            int there = roads.go(to, STEP_MINUTES * s, what == 0);
            if (there != NOTHING) {
                return there;
            }
            flow.pass(trial, rules);
        }
        return roads.isAt(to, LAST_MINUTE) ? LAST_MINUTE : NOTHING;
    }

    public int edge(int what) {
        if (!isWithin(what, 2)) {
            return NONE;
        }
        roads.look(valley, rules);
        int first = NOTHING;
        int second = NOTHING;
        int most = NOTHING;
        for (int i = 0; i < ROADS; i++) {
            for (int j = i + 1; j < ROADS; j++) {
                if (roads.meet(i, j) && Math.abs(roads.yards[i] - roads.yards[j]) > most) {
                    first = i;
                    second = j;
                    most = Math.abs(roads.yards[i] - roads.yards[j]);
                }
            }
        }
        if (what == 0) {
            return first;
        }
        return what == 1 ? second : most;
    }

    public int was(int i, int j, int l, int top, int till) {
        if (!isEvening(i, j, l) || !isWithin(top, MOST_GROUND) || !isWithin(till, MOST_TILL)
                || nights.size >= NIGHTS) {
            return NONE;
        }
        int night = nights.size;
        nights.is[night] = i;
        nights.js[night] = j;
        nights.ls[night] = l;
        nights.tops[night] = top;
        nights.tills[night] = till;
        nights.size++;
        return nights.size;
    }

    public int line(int number, int missed, int said, int what) {
        if (!isWithin(number, 2) || !arePrices(missed, said) || !isWithin(what, 1)) {
            return NONE;
        }
        int best = nights.bestLine(number, missed, said);
        return what == 0 ? nights.lineCost(number, best, missed, said) : best;
    }

    public int tells(int missed, int said) {
        if (!arePrices(missed, said)) {
            return NONE;
        }
        int best = 0;
        int least = Integer.MAX_VALUE;
        for (int number = 0; number < 3; number++) {
            int cost = nights.lineCost(number, nights.bestLine(number, missed, said), missed, said);
            if (cost < least) {
                best = number;
                least = cost;
            }
        }
        return best;
    }

    public int held(int missed, int said) {
        if (!arePrices(missed, said)) {
            return NONE;
        }
        int cost = 0;
        for (int night = 0; night < nights.size; night++) {
            boolean isSaid = rules.saysMist(nights.is[night], nights.js[night], nights.ls[night]);
            cost += nights.cost(night, isSaid, missed, said);
        }
        return cost;
    }

    public int odds(int i, int j, int l, int width, int what) {
        if (!isEvening(i, j, l) || !isWithin(width, 99) || !isWithin(what, 2)) {
            return NONE;
        }
        int alike = 0;
        int misty = 0;
        int highest = 0;
        for (int night = 0; night < nights.size; night++) {
            if (!nights.isAlike(night, i, j, l, width)) {
                continue;
            }
            alike++;
            if (nights.tops[night] > 0) {
                misty++;
            }
            highest = Math.max(highest, nights.tops[night]);
        }
        if (alike == 0) {
            return NOTHING;
        }
        if (what == 2) {
            return highest;
        }
        return (int) lowestTerm(misty, alike, what);
    }

    public int when(int early, int late, int what) {
        if (!isWithin(early, MOST_MINUTE_PRICE) || !isWithin(late, MOST_MINUTE_PRICE)
                || !isWithin(what, 1)) {
            return NONE;
        }
        int best = 0;
        int least = Integer.MAX_VALUE;
        for (int minute = 0; minute <= MOST_TILL; minute++) {
            int cost = nights.sendCost(minute, early, late);
            if (cost < least) {
                best = minute;
                least = cost;
            }
        }
        return what == 0 ? best : least;
    }

    public long lid(int strength, int n, int k, int what) {
        if (strength < 1 || strength > Lid.MOST_STRENGTH || n < 1 || n > Lid.MOST_STEPS
                || k < 1 || k > Lid.MOST_PUSH || !isWithin(what, 1)) {
            return -1L;
        }
        return lowestTerm(cover.breaking(strength, n, k), cover.all(n, k), what);
    }

    public boolean seed(int x) {
        if (!isWithin(x, SEEDS - 1)) {
            return false;
        }
        valley.chance = x;
        return true;
    }

    public int draw(int n) {
        if (!isNight(n)) {
            return NONE;
        }
        int before = valley.ran;
        for (int s = 0; s < n; s++) {
            valley.drawWind();
            flow.pass(valley, rules);
        }
        return valley.ran - before;
    }

    public int keep() {
        kept.copyFrom(valley);
        anyKept = true;
        return valley.step;
    }

    public boolean undo() {
        if (!anyKept) {
            return false;
        }
        valley.copyFrom(kept);
        return true;
    }

    public int check(int y, int n) {
        if (!isWithin(y, SIDE - 1) || !isWithin(n, SIDE) || Tape.NUMBER * n > tape.size) {
            return NOTHING;
        }
        tape.size = 0;
        for (int x = 0; x < n; x++) {
            if (tape.number(x) != valley.colds[SIDE * y + x]) {
                return x;
            }
        }
        return NONE;
    }

    public int count(int what) {
        switch (what) {
            case 0:
                return valley.step;
            case 1:
                return rules.clauses;
            case 2:
                return tape.size;
            case 3:
                return nights.size;
            case 4:
                return roads.told;
            case 5:
                return valley.chance;
            default:
                return what < FIRST_WIND_COUNT ? NONE : valley.windOf(what - FIRST_WIND_COUNT);
        }
    }

    private static boolean isWithin(int n, int most) {
        return n >= 0 && n <= most;
    }

    private static boolean isPlace(int x, int y) {
        return isWithin(x, SIDE - 1) && isWithin(y, SIDE - 1);
    }

    private static boolean isNight(int n) {
        return n >= 1 && n <= MOST_STEPS;
    }

    private static boolean isEvening(int i, int j, int l) {
        return isWithin(i, 99) && isWithin(j, 99) && isWithin(l, 99);
    }

    private static boolean arePrices(int missed, int said) {
        return isWithin(missed, MOST_PRICE) && isWithin(said, MOST_PRICE);
    }

    private static int orNothing(int top) {
        return top > 0 ? top : NOTHING;
    }

    private static int sumOf(int[] row) {
        int sum = 0;
        for (int n : row) {
            sum += n;
        }
        return sum;
    }

    private static int bounded(int n, int most) {
        return Math.max(0, Math.min(n, most));
    }

    /** What 0 the number above, 1 the one below the line. */
    private static long lowestTerm(long above, long below, int what) {
        long divisor = above;
        long rest = below;
        // Euclid's way: the numbers are 10 to the 12th at most, so some sixty turns are enough.
        for (int turn = 0; turn < 200 && divisor != 0; turn++) {
            long next = rest % divisor;
            rest = divisor;
            divisor = next;
        }
        if (rest == 0) {
            return 0;
        }
        return what == 0 ? above / rest : below / rest;
    }

    /** A night on trial, with trees on one more cell (or NONE). */
    private void passTrial(int n, int trees) {
        trial.copyFrom(valley);
        if (isWithin(trees, CELLS - 1)) {
            trial.sorts[trees] = TREES;
        }
        for (int s = 0; s < n; s++) {
            flow.pass(trial, rules);
        }
    }

    /** The least height at and above which the trial has no cold of f now. */
    private int heightFreeOf(int f) {
        int height = 0;
        for (int number = 0; number < CELLS; number++) {
            if (trial.colds[number] >= f) {
                height = Math.max(height, trial.hands[number] + 1);
            }
        }
        return height;
    }

    private int tellWorks(int what) {
        int more = 0;
        int less = 0;
        int gainer = NOTHING;
        int most = 0;
        for (int number = 0; number < CELLS; number++) {
            int gain = trial.colds[number] - coldWithout[number];
            if (gain > 0) {
                more++;
            }
            if (gain < 0) {
                less++;
            }
            if (gain > most) {
                gainer = number;
                most = gain;
            }
        }
        switch (what) {
            case 0:
                return more;
            case 1:
                return less;
            case 2:
                return gainer;
            default:
                return most;
        }
    }

    /** All that is kept and undone: the cells, the step, the winds, what ran, the drawn number. */
    private static final class Valley {
        private static final int FACTOR = 25173;
        private static final int SUMMAND = 13849;

        private final int[] hands = new int[CELLS];
        private final int[] sorts = new int[CELLS];
        private final int[] colds = new int[CELLS];
        private final int[] waters = new int[CELLS];
        private final int[] winds = new int[WINDS];
        private int step = 0;
        private int ran = 0;
        private int chance = 1;

        private void copyFrom(Valley other) {
            System.arraycopy(other.hands, 0, hands, 0, CELLS);
            System.arraycopy(other.sorts, 0, sorts, 0, CELLS);
            System.arraycopy(other.colds, 0, colds, 0, CELLS);
            System.arraycopy(other.waters, 0, waters, 0, CELLS);
            System.arraycopy(other.winds, 0, winds, 0, WINDS);
            step = other.step;
            ran = other.ran;
            chance = other.chance;
        }

        private int windOf(int someStep) {
            return isWithin(someStep, WINDS - 1) ? winds[someStep] : 0;
        }

        private void drawWind() {
            chance = (FACTOR * chance + SUMMAND) % SEEDS;
            if (isWithin(step, WINDS - 1)) {
                winds[step] = chance % (MOST_WIND + 1);
            }
        }

        private int level(int number) {
            int trees = sorts[number] == TREES ? 30 : 0;
            return 10 * hands[number] + colds[number] + trees;
        }

        private int treesBeside(int number) {
            int x = number % SIDE;
            int trees = 0;
            if (number >= SIDE && sorts[number - SIDE] == TREES) {
                trees++;
            }
            if (x > 0 && sorts[number - 1] == TREES) {
                trees++;
            }
            if (x < SIDE - 1 && sorts[number + 1] == TREES) {
                trees++;
            }
            if (number < CELLS - SIDE && sorts[number + SIDE] == TREES) {
                trees++;
            }
            return trees;
        }
    }

    /** One step of a valley: what comes by the law, then cold that runs. */
    private static final class Flow {
        private final int[] levels = new int[CELLS];
        private final int[] behind = new int[CELLS];

        private void pass(Valley valley, Law law) {
            if (law.changesAir) {
                comeAndDry(valley, law);
            }
            runDown(valley);
            valley.step++;
        }

        private void comeAndDry(Valley valley, Law law) {
            for (int number = 0; number < CELLS; number++) {
                law.see(valley, number);
                int cold = law.worth('c');
                int water = law.worth('w') - law.worth('s');
                valley.colds[number] = bounded(valley.colds[number] + cold, MOST_AIR);
                valley.waters[number] = bounded(valley.waters[number] + water, MOST_AIR);
            }
        }

        private void runDown(Valley valley) {
            for (int number = 0; number < CELLS; number++) {
                levels[number] = valley.level(number);
                behind[number] = valley.colds[number];
            }
            for (int number = 0; number < CELLS; number++) {
                int low = lowestBeside(number);
                int fall = levels[number] - levels[low];
                if (fall > 0) {
                    int given = Math.min((valley.colds[number] + 3) / 4, fall / 2);
                    behind[number] -= given;
                    behind[low] += given;
                    valley.ran += given;
                }
            }
            // Held only here, so that what a cell gives makes room for what comes to it.
            for (int number = 0; number < CELLS; number++) {
                valley.colds[number] = Math.min(behind[number], MOST_AIR);
            }
        }

        /** The four sides are asked by rising numbers, so the first of like ones is the lowest. */
        private int lowestBeside(int number) {
            int x = number % SIDE;
            int low = number;
            if (number >= SIDE && levels[number - SIDE] < levels[low]) {
                low = number - SIDE;
            }
            if (x > 0 && levels[number - 1] < levels[low]) {
                low = number - 1;
            }
            if (x < SIDE - 1 && levels[number + 1] < levels[low]) {
                low = number + 1;
            }
            if (number < CELLS - SIDE && levels[number + SIDE] < levels[low]) {
                low = number + SIDE;
            }
            return low;
        }
    }

    /** What mist there is in a valley now. */
    private static final class Sight {
        private int misty = 0;
        private int first = NOTHING;
        private int highest = 0;

        private void look(Valley valley, Law law) {
            misty = 0;
            first = NOTHING;
            highest = 0;
            for (int number = 0; number < CELLS; number++) {
                int top = law.top(valley, number);
                if (top > 0) {
                    misty++;
                    first = misty == 1 ? number : first;
                    highest = Math.max(highest, top);
                }
            }
        }
    }

    /** A law as code for a small stack machine, so that no text is read in a step. */
    private static final class Law {
        private static final int TEXT = 200;
        private static final int MOST_CLAUSES = 14;
        /** A sign of the text becomes two numbers at most. */
        private static final int CODE = 2 * TEXT;
        /** Six brackets hold two waiting numbers each; the rest is to spare. */
        private static final int STACK = 32;

        private static final String LETTERS = "hktvcwxyndijl";
        private static final int H = 0;
        private static final int K = 1;
        private static final int T = 2;
        private static final int V = 3;
        private static final int C = 4;
        private static final int W = 5;
        private static final int X = 6;
        private static final int Y = 7;
        private static final int N = 8;
        private static final int D = 9;
        private static final int I = 10;
        private static final int J = 11;
        private static final int L = 12;
        /** Behind the letters' codes; the operators' codes are their signs, all above this. */
        private static final int NUMBER = 13;

        private final int[] code = new int[CODE];
        private final int[] letters = new int[MOST_CLAUSES];
        private final int[] worths = new int[MOST_CLAUSES];
        private final int[] conditions = new int[MOST_CLAUSES];
        private final int[] ends = new int[MOST_CLAUSES];
        private final int[] values = new int[LETTERS.length()];
        private final int[] stack = new int[STACK];
        private int clauses = 0;
        private int size = 0;
        private boolean changesAir = false;
        private boolean asksTrees = false;

        private void clear() {
            clauses = 0;
            size = 0;
            changesAir = false;
            asksTrees = false;
        }

        private void put(int n) {
            if (size < CODE) {
                code[size] = n;
                size++;
            }
        }

        /** A jump's goal is not known yet: its place is told, for land. */
        private int putJump(int sign) {
            put(sign);
            put(0);
            return size - 1;
        }

        private void land(int jump) {
            if (isWithin(jump, CODE - 1)) {
                code[jump] = size;
            }
        }

        private void addClause(int letter, int worth, int condition) {
            if (clauses < MOST_CLAUSES) {
                letters[clauses] = letter;
                worths[clauses] = worth;
                conditions[clauses] = condition;
                ends[clauses] = size;
                clauses++;
            }
            changesAir = changesAir || letter == 'c' || letter == 'w' || letter == 's';
        }

        /** The letters' values at a cell, but for the mist. */
        private void see(Valley valley, int number) {
            values[H] = valley.hands[number];
            values[K] = valley.sorts[number];
            values[T] = valley.step;
            values[V] = valley.windOf(valley.step);
            values[C] = valley.colds[number];
            values[W] = valley.waters[number];
            values[X] = number % SIDE;
            values[Y] = number / SIDE;
            values[N] = asksTrees ? valley.treesBeside(number) : 0;
            values[D] = 0;
            values[I] = 0;
            values[J] = 0;
            values[L] = 0;
        }

        private int mist(Valley valley, int number) {
            see(valley, number);
            return worth('m');
        }

        /** 0: no mist, since with mist it is 1 or more. */
        private int top(Valley valley, int number) {
            int mist = mist(valley, number);
            return mist > 0 ? valley.hands[number] + mist : 0;
        }

        private int yards(Valley valley, int number) {
            values[D] = mist(valley, number);
            return worth('y');
        }

        private boolean saysMist(int i, int j, int l) {
            Arrays.fill(values, 0);
            values[I] = i;
            values[J] = j;
            values[L] = l;
            return worth('f') > 0;
        }

        private int worth(int letter) {
            for (int clause = 0; clause < clauses; clause++) {
                if (letters[clause] == letter && run(conditions[clause], ends[clause]) != 0) {
                    return bounded(run(worths[clause], conditions[clause]), most(letter));
                }
            }
            return 0;
        }

        private static int most(int letter) {
            if (letter == 'y') {
                return 999;
            }
            return letter == 'f' ? 1 : 99;
        }

        /** What is refused answers 0: a condition does not hold then, and a worth is 0. */
        private int run(int from, int to) {
            int top = 0;
            int at = Math.max(0, from);
            int end = Math.min(to, CODE);
            // A step goes on, and a jump only ahead: so many turns are enough.
            for (int turn = 0; turn < CODE && at < end; turn++) {
                int sign = code[at];
                int next = at + 1 < end ? code[at + 1] : 0;
                if (isWithin(sign, NUMBER)) {
                    if (top >= STACK) {
                        return 0;
                    }
                    stack[top] = sign == NUMBER ? next : values[sign];
                    top++;
                    at += sign == NUMBER ? 2 : 1;
                } else if (top < 1) {
                    return 0;
                } else if (sign == '&' || sign == '|') {
                    boolean isSettled = (stack[top - 1] != 0) == (sign == '|');
                    at = isSettled ? Math.max(at + 2, next) : at + 2;
                    top -= isSettled ? 0 : 1;
                } else if (sign == '!') {
                    stack[top - 1] = stack[top - 1] == 0 ? 1 : 0;
                    at++;
                } else {
                    if (top < 2 || stack[top - 1] == 0 && (sign == '/' || sign == '%')) {
                        return 0;
                    }
                    stack[top - 2] = combine(sign, stack[top - 2], stack[top - 1]);
                    top--;
                    at++;
                }
            }
            return top < 1 ? 0 : stack[top - 1];
        }

        private static int combine(int sign, int a, int b) {
            switch (sign) {
                case '+':
                    return a + b;
                case '-':
                    return a - b;
                case '*':
                    return a * b;
                case '/':
                    return b == 0 ? 0 : a / b;
                case '%':
                    return b == 0 ? 0 : a % b;
                case '<':
                    return a < b ? 1 : 0;
                case '>':
                    return a > b ? 1 : 0;
                default:
                    return a == b ? 1 : 0;
            }
        }
    }

    /** Reads a law from the tape, sign by sign; its first fault ends the reading. */
    private static final class Reader {
        private static final int END = -1;
        private static final int MISPLACED = 1;
        private static final int SIXTH_DIGIT = 2;
        private static final int CLAUSE_TOO_MANY = 4;
        private static final int TOO_DEEP = 5;
        private static final int MOST_OPEN = 6;
        private static final int MOST_DIGITS = 5;
        private static final String CLAUSE_LETTERS = "cwsmyf";

        private final int[] text;
        private Law into;
        private int length = 0;
        private int at = 0;
        private int fault = 0;

        private Reader(int[] text, Law into) {
            this.text = text;
            this.into = into;
        }

        /** How many clauses the first n signs have, or the fault. */
        private int read(int n, Law law) {
            into = law;
            length = Math.min(n, text.length);
            at = 0;
            fault = 0;
            law.clear();
            for (int clause = 0; clause <= Law.MOST_CLAUSES; clause++) {
                if (!readClause()) {
                    return fault;
                }
                if (at >= length) {
                    return law.clauses;
                }
                if (!take(';')) {
                    return fault;
                }
            }
            return fault;
        }

        private int sign() {
            return at < length ? text[at] : END;
        }

        private boolean fail(int number) {
            fault = -1000 * number - at;
            return false;
        }

        private boolean take(int sign) {
            if (sign() != sign) {
                return fail(MISPLACED);
            }
            at++;
            return true;
        }

        private boolean readClause() {
            int letter = sign();
            if (letter < 0 || CLAUSE_LETTERS.indexOf((char) letter) < 0) {
                return fail(MISPLACED);
            }
            if (into.clauses >= Law.MOST_CLAUSES) {
                return fail(CLAUSE_TOO_MANY);
            }
            at++;
            int worth = into.size;
            if (!readSum(0)) {
                return false;
            }
            int condition = into.size;
            if (!take('(') || !readChoice(1) || !take(')')) {
                return false;
            }
            into.addClause(letter, worth, condition);
            return true;
        }

        /** A C, where so many ( [ ! are open. */
        private boolean readChoice(int open) {
            if (!readPart(open)) {
                return false;
            }
            while (at < length && sign() == '|') {
                at++;
                int jump = into.putJump('|');
                if (!readPart(open)) {
                    return false;
                }
                into.land(jump);
            }
            return true;
        }

        private boolean readPart(int open) {
            if (!readPiece(open)) {
                return false;
            }
            while (at < length && sign() == '&') {
                at++;
                int jump = into.putJump('&');
                if (!readPiece(open)) {
                    return false;
                }
                into.land(jump);
            }
            return true;
        }

        private boolean readPiece(int open) {
            int sign = sign();
            if (sign != '!' && sign != '(') {
                return readSum(open) && readCompared(open);
            }
            if (open >= MOST_OPEN) {
                return fail(TOO_DEEP);
            }
            at++;
            if (sign == '(') {
                return readChoice(open + 1) && take(')');
            }
            if (!readPiece(open + 1)) {
                return false;
            }
            into.put('!');
            return true;
        }

        /** One of < > =, and an E. */
        private boolean readCompared(int open) {
            int sign = sign();
            if (sign != '<' && sign != '>' && sign != '=') {
                return fail(MISPLACED);
            }
            at++;
            if (!readSum(open)) {
                return false;
            }
            into.put(sign);
            return true;
        }

        /** An E, where so many ( [ ! are open. */
        private boolean readSum(int open) {
            if (!readTerm(open)) {
                return false;
            }
            while (at < length && (sign() == '+' || sign() == '-')) {
                int sign = sign();
                at++;
                if (!readTerm(open)) {
                    return false;
                }
                into.put(sign);
            }
            return true;
        }

        private boolean readTerm(int open) {
            if (!readFactor(open)) {
                return false;
            }
            while (at < length && (sign() == '*' || sign() == '/' || sign() == '%')) {
                int sign = sign();
                at++;
                if (!readFactor(open)) {
                    return false;
                }
                into.put(sign);
            }
            return true;
        }

        private boolean readFactor(int open) {
            int sign = sign();
            if (sign == '[') {
                if (open >= MOST_OPEN) {
                    return fail(TOO_DEEP);
                }
                at++;
                return readSum(open + 1) && take(']');
            }
            if (isDigit(sign)) {
                return readNumber();
            }
            int letter = sign < 0 ? NONE : Law.LETTERS.indexOf((char) sign);
            if (letter < 0) {
                return fail(MISPLACED);
            }
            at++;
            into.put(letter);
            into.asksTrees = into.asksTrees || letter == Law.N;
            return true;
        }

        private boolean readNumber() {
            int number = 0;
            for (int digits = 0; at < length && isDigit(sign()); digits++) {
                if (digits >= MOST_DIGITS) {
                    return fail(SIXTH_DIGIT);
                }
                number = 10 * number + sign() - '0';
                at++;
            }
            into.put(Law.NUMBER);
            into.put(number);
            return true;
        }

        private static boolean isDigit(int sign) {
            return sign >= '0' && sign <= '9';
        }
    }

    /** Bytes that wait for law and check. */
    private static final class Tape {
        private static final int ROOM = 220;
        private static final int MEAL = 20;
        private static final int NUMBER = 4;

        private final int[] bytes = new int[ROOM];
        private int size = 0;

        private void put(int number) {
            for (int shift = 24; shift >= 0 && size < ROOM; shift -= 8) {
                bytes[size] = number >>> shift & 255;
                size++;
            }
        }

        private int sign(int place) {
            return isWithin(place, ROOM - 1) ? bytes[place] : 0;
        }

        private int number(int place) {
            int number = 0;
            for (int i = 0; i < NUMBER; i++) {
                number = number << 8 | sign(NUMBER * place + i);
            }
            return number;
        }
    }

    /** Roads between nodes, and one who goes on them. */
    private static final class Roads {
        private static final int MOST_LENGTH = 99;

        /** A bit for each of the two nodes. */
        private final int[] ends = new int[ROADS];
        private final int[] lengths = new int[ROADS];
        private final int[] cells = new int[ROADS];
        private final int[] yards = new int[ROADS];
        /** For each minute a bit for each node at which one can be then. */
        private final int[] reached = new int[LAST_MINUTE + 1];
        private int told = 0;

        private boolean isTold(int road) {
            return (told >> road & 1) == 1;
        }

        private boolean meet(int first, int second) {
            return isTold(first) && isTold(second) && (ends[first] & ends[second]) != 0;
        }

        private void look(Valley valley, Law law) {
            for (int road = 0; road < ROADS; road++) {
                yards[road] = isTold(road) ? law.yards(valley, cells[road]) : 0;
            }
        }

        private void leave(int node, int minute) {
            Arrays.fill(reached, 0);
            reached[minute] = 1 << node;
        }

        private boolean isAt(int node, int minute) {
            return (reached[minute] >> node & 1) == 1;
        }

        /** The first minute of this step at which one is there; all others go on by the yards seen last. */
        private int go(int node, int firstMinute, boolean mayWait) {
            for (int minute = firstMinute; minute < Math.min(firstMinute + STEP_MINUTES, LAST_MINUTE); minute++) {
                if (isAt(node, minute)) {
                    return minute;
                }
                if (reached[minute] != 0) {
                    goIn(minute);
                }
                if (mayWait) {
                    reached[minute + 1] |= reached[minute];
                }
            }
            return NOTHING;
        }

        private void goIn(int minute) {
            for (int road = 0; road < ROADS; road++) {
                int here = reached[minute] & ends[road];
                if (!isTold(road) || yards[road] <= 0 || here == 0) {
                    continue;
                }
                int out = minute + (100 * lengths[road] + yards[road] - 1) / yards[road];
                if (out <= LAST_MINUTE) {
                    // Who is at both ends goes both ways.
                    reached[out] |= here == ends[road] ? here : ends[road] & ~here;
                }
            }
        }
    }

    /** Nights that were: an evening's numbers, how high the mist stood, and till when. */
    private static final class Nights {
        private static final int MOST_LINE = 100;

        private final int[] is = new int[NIGHTS];
        private final int[] js = new int[NIGHTS];
        private final int[] ls = new int[NIGHTS];
        private final int[] tops = new int[NIGHTS];
        private final int[] tills = new int[NIGHTS];
        private int size = 0;

        private int eveningNumber(int night, int number) {
            if (number == 0) {
                return is[night];
            }
            return number == 1 ? js[night] : ls[night];
        }

        private int cost(int night, boolean isSaid, int missedPrice, int saidPrice) {
            boolean hadMist = tops[night] > 0;
            if (hadMist == isSaid) {
                return 0;
            }
            return hadMist ? missedPrice : saidPrice;
        }

        private int lineCost(int number, int from, int missedPrice, int saidPrice) {
            int sum = 0;
            for (int night = 0; night < size && night < NIGHTS; night++) {
                boolean isSaid = eveningNumber(night, number) >= from;
                sum += cost(night, isSaid, missedPrice, saidPrice);
            }
            return sum;
        }

        private int bestLine(int number, int missedPrice, int saidPrice) {
            int best = 0;
            int least = Integer.MAX_VALUE;
            for (int from = 0; from <= MOST_LINE; from++) {
                int sum = lineCost(number, from, missedPrice, saidPrice);
                if (sum < least) {
                    best = from;
                    least = sum;
                }
            }
            return best;
        }

        private boolean isAlike(int night, int i, int j, int l, int width) {
            return Math.abs(is[night] - i) <= width && Math.abs(js[night] - j) <= width
                    && Math.abs(ls[night] - l) <= width;
        }

        private int sendCost(int minute, int early, int late) {
            int sum = 0;
            for (int night = 0; night < size && night < NIGHTS; night++) {
                if (tops[night] > 0) {
                    int stoodLonger = tills[night] - minute;
                    sum += stoodLonger > 0 ? early * stoodLonger : late * -stoodLonger;
                }
            }
            return sum;
        }
    }

    /** How many ways of pushing break a lid, out of all. */
    private static final class Lid {
        private static final int MOST_STRENGTH = 200;
        private static final int MOST_STEPS = 12;
        private static final int MOST_PUSH = 9;
        private static final int SUMS = MOST_STEPS * MOST_PUSH + 1;

        private final long[] ways = new long[SUMS];

        private long all(int n, int k) {
            long product = 1;
            for (int s = 0; s < n; s++) {
                product *= k + 1;
            }
            return product;
        }

        private long breaking(int strength, int n, int k) {
            Arrays.fill(ways, 0L);
            ways[0] = 1;
            for (int s = 0; s < n; s++) {
                push(k);
            }
            long broken = 0;
            for (int sum = strength; sum < SUMS; sum++) {
                broken += ways[sum];
            }
            return broken;
        }

        /** From the highest sum down, so that each still reads the ways before this push. */
        private void push(int k) {
            for (int sum = SUMS - 1; sum > 0; sum--) {
                for (int pushed = 1; pushed <= k && pushed <= sum; pushed++) {
                    ways[sum] += ways[sum - pushed];
                }
            }
        }
    }
}

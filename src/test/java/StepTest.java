/** The document's first part, but for the law: cells, winds, the step, cold that runs. Each sentence's edges. */
public final class StepTest {
    private static final Due DUE = new Due("step");
    private static final int NONE = MistHands.NONE;

    public static void main(String[] args) {
        cells();
        ground();
        sorts();
        air();
        beside();
        besideNotRound();
        besideAll();
        theStep();
        winds();
        level();
        comes();
        asAhead();
        runsTo();
        runsIfBelow();
        howMuch();
        whicheverIsLess();
        asBehind();
        held();
        heldBehindGiving();
        oneMore();
        ran();
        mistAndTop();
        DUE.end();
    }

    private static void cells() {
        DUE.sentence("CELLS x, y (0 to 11; number: 12 y and x):");
        int[][] there = {{0, 0}, {11, 0}, {0, 11}, {11, 11}, {1, 10}};
        int[][] beyond = {{-1, 0}, {12, 0}, {0, -1}, {0, 12}, {-1, 1}, {12, 10}, {-1, 12}, {12, -1},
            {Integer.MIN_VALUE, 0}, {Integer.MAX_VALUE, 0}, {0, Integer.MIN_VALUE}, {0, Integer.MAX_VALUE}};
        MistHands m = new MistHands();
        for (int[] place : there) {
            String name = place[0] + " " + place[1];
            DUE.is("ground " + name, m.ground(place[0], place[1], 0, 0), true);
            DUE.is("air " + name, m.air(place[0], place[1], 0, 0), true);
            DUE.is("cell " + name, m.cell(place[0], place[1], 0), 0);
            DUE.is("sun " + name, m.sun(place[0], place[1], 5, 3), 3);
            DUE.is("works " + name, m.works(place[0], place[1], 1, 0), 0);
        }
        for (int[] place : beyond) {
            String name = place[0] + " " + place[1];
            DUE.is("ground " + name, m.ground(place[0], place[1], 0, 0), false);
            DUE.is("air " + name, m.air(place[0], place[1], 0, 0), false);
            DUE.is("cell " + name, m.cell(place[0], place[1], 0), NONE);
            DUE.is("sun " + name, m.sun(place[0], place[1], 5, 3), NONE);
            DUE.is("works " + name, m.works(place[0], place[1], 1, 0), NONE);
        }
        m = Due.under("m1(x=t-1&y=0);m1(x=0&y=t-1);y7(x=0&y=1)");
        DUE.is("0", m.night(1, 2), 0);
        m.steps(1);
        DUE.is("1 stands ahead of 12", m.night(1, 2), 1);
        for (int[] place : new int[][] {{11, 0}, {0, 1}, {5, 7}, {0, 11}, {11, 11}}) {
            m = Due.under("m1(x=" + place[0] + "&y=" + place[1] + ")");
            DUE.is("number of " + place[0] + " " + place[1], m.night(1, 2), 12 * place[1] + place[0]);
        }
        m = Due.under("y100(x=0&y=1)");
        m.road(0, 0, 1, 1, 12);
        m.road(1, 2, 3, 1, 1);
        DUE.is("a road's cell 12 is 0, 1", m.soonest(0, 1, 0, 0), 1);
        DUE.is("a road's cell 1 is 1, 0", m.soonest(2, 3, 0, 0), -2);
    }

    private static void ground() {
        DUE.sentence("GROUND (0 to 99 hands; 0 at first),");
        MistHands m = new MistHands();
        DUE.is("at first", m.cell(4, 4, 0), 0);
        for (int hands : new int[] {0, 1, 98, 99}) {
            DUE.is("hands " + hands, m.ground(4, 4, hands, 0), true);
            DUE.is("hands " + hands, m.cell(4, 4, 0), hands);
        }
        for (int hands : new int[] {-1, 100, Integer.MIN_VALUE, Integer.MAX_VALUE}) {
            DUE.is("hands " + hands, m.ground(4, 4, hands, 3), false);
            DUE.is("refused: the ground stays", m.cell(4, 4, 0), 99);
            DUE.is("refused: the sort stays", m.cell(4, 4, 1), 0);
        }
    }

    private static void sorts() {
        DUE.sentence("SORT (0 field, 1 river, 2 trees, 3 road, 4 vines; 0 at first),");
        MistHands m = Due.under("mn(1=1)");
        DUE.is("at first", m.cell(4, 4, 1), 0);
        for (int sort = 0; sort <= 4; sort++) {
            DUE.is("sort " + sort, m.ground(4, 4, 7, sort), true);
            DUE.is("sort " + sort, m.cell(4, 4, 1), sort);
            DUE.is("only 2 are trees: level, sort " + sort, m.cell(4, 4, 7), sort == 2 ? 100 : 70);
            DUE.is("only 2 are trees: n, sort " + sort, m.cell(4, 5, 4), sort == 2 ? 1 : 0);
            DUE.is("only 2 are trees: works, sort " + sort, m.works(4, 4, 1, 3), sort == 2 ? NONE : 0);
        }
        for (int sort : new int[] {-1, 5, Integer.MIN_VALUE, Integer.MAX_VALUE}) {
            DUE.is("sort " + sort, m.ground(4, 4, 9, sort), false);
            DUE.is("refused: the sort stays", m.cell(4, 4, 1), 4);
            DUE.is("refused: the ground stays", m.cell(4, 4, 0), 7);
        }
    }

    private static void air() {
        DUE.sentence("COLD and WATER (0 to 9999; 0 at first).");
        MistHands m = new MistHands();
        DUE.is("at first", m.cell(4, 4, 2), 0);
        DUE.is("at first", m.cell(4, 4, 3), 0);
        for (int n : new int[] {0, 1, 9998, 9999}) {
            DUE.is("cold " + n, m.air(4, 4, n, 9999 - n), true);
            DUE.is("cold " + n, m.cell(4, 4, 2), n);
            DUE.is("water " + (9999 - n), m.cell(4, 4, 3), 9999 - n);
        }
        m.air(4, 4, 50, 60);
        for (int n : new int[] {-1, 10000, Integer.MIN_VALUE, Integer.MAX_VALUE}) {
            DUE.is("cold " + n, m.air(4, 4, n, 1), false);
            DUE.is("water " + n, m.air(4, 4, 1, n), false);
            DUE.is("refused: cold stays", m.cell(4, 4, 2), 50);
            DUE.is("refused: water stays", m.cell(4, 4, 3), 60);
        }
    }

    private static void beside() {
        DUE.sentence("BESIDE a CELL are those at its four sides.");
        for (int dx = -2; dx <= 2; dx++) {
            for (int dy = -2; dy <= 2; dy++) {
                boolean isBeside = Math.abs(dx) + Math.abs(dy) == 1;
                MistHands m = Due.under("mn(1=1)");
                m.ground(5 + dx, 5 + dy, 0, 2);
                DUE.is("trees at " + dx + " " + dy, m.cell(5, 5, 4), isBeside ? 1 : 0);
                m = pit(5 + dx, 5 + dy, 5, 5);
                DUE.is("lower at " + dx + " " + dy, m.steps(1), isBeside ? 10 : 0);
            }
        }
    }

    /** All ground is 90 but at the pit's place and at that of cold 40, which stands at 50. */
    private static MistHands pit(int pitX, int pitY, int x, int y) {
        MistHands m = new MistHands();
        for (int cell = 0; cell < 144; cell++) {
            m.ground(cell % 12, cell / 12, 90, 0);
        }
        m.ground(pitX, pitY, 0, 0);
        m.ground(x, y, 50, 0);
        m.air(x, y, 40, 0);
        return m;
    }

    private static void besideNotRound() {
        int[][] apart = {{0, 4, 11, 3}, {11, 3, 0, 4}, {0, 4, 11, 4}, {11, 4, 0, 4}, {4, 0, 4, 11}, {4, 11, 4, 0},
            {0, 0, 11, 11}, {11, 11, 0, 0}, {0, 1, 11, 0}, {11, 10, 0, 11}};
        for (int[] two : apart) {
            String name = two[0] + " " + two[1] + " is not beside " + two[2] + " " + two[3];
            DUE.is(name, pit(two[0], two[1], two[2], two[3]).steps(1), 0);
            MistHands m = Due.under("mn(1=1)");
            m.ground(two[0], two[1], 0, 2);
            DUE.is(name, m.cell(two[2], two[3], 4), 0);
        }
        int[][] close = {{1, 0, 0, 0}, {0, 1, 0, 0}, {10, 0, 11, 0}, {11, 1, 11, 0}, {0, 10, 0, 11}, {1, 11, 0, 11},
            {11, 10, 11, 11}, {10, 11, 11, 11}};
        for (int[] two : close) {
            String name = two[0] + " " + two[1] + " is beside " + two[2] + " " + two[3];
            DUE.is(name, pit(two[0], two[1], two[2], two[3]).steps(1), 10);
        }
    }

    /** Of each two cells whether they are beside each other: by trees, and by cold that runs. */
    private static void besideAll() {
        for (int from = 0; from < 144; from++) {
            MistHands trees = Due.under("mn(1=1)");
            trees.ground(from % 12, from / 12, 0, 2);
            for (int to = 0; to < 144; to++) {
                int apart = Math.abs(from % 12 - to % 12) + Math.abs(from / 12 - to / 12);
                DUE.is("trees on " + from + " for " + to, trees.cell(to % 12, to / 12, 4), apart == 1 ? 1 : 0);
                if (apart != 0) {
                    MistHands m = pit(to % 12, to / 12, from % 12, from / 12);
                    DUE.is("from " + from + " to " + to, m.steps(1), apart == 1 ? 10 : 0);
                }
            }
        }
    }

    private static void theStep() {
        DUE.sentence("THE STEP (0 at first; ten minutes).");
        MistHands m = new MistHands();
        DUE.is("at first", m.count(0), 0);
        Due.law(m, "y100(t=1)");
        m.road(0, 0, 1, 1, 0);
        DUE.is("minute 9 is in the first one", m.soonest(0, 1, 9, 1), -2);
        DUE.is("minute 10 is in the second", m.soonest(0, 1, 10, 1), 11);
        DUE.is("minute 19 is in the second", m.soonest(0, 1, 19, 1), 20);
        DUE.is("minute 20 is in the third", m.soonest(0, 1, 20, 1), -2);
    }

    private static void winds() {
        DUE.sentence("WINDS of STEPS 0 to 99 (0 to 9; 0 at first; of later ones 0).");
        MistHands m = new MistHands();
        for (int step = 0; step < 100; step++) {
            DUE.is("at first, " + step, m.count(100 + step), 0);
        }
        for (int n : new int[] {-1, 10, Integer.MIN_VALUE, Integer.MAX_VALUE}) {
            DUE.is("wind " + n, m.wind(0, n), false);
            DUE.is("refused: it stays", m.count(100), 0);
        }
        for (int step : new int[] {-1, 100, Integer.MIN_VALUE, Integer.MAX_VALUE}) {
            DUE.is("wind of step " + step, m.wind(step, 5), false);
        }
        for (int n = 0; n < 10; n++) {
            DUE.is("wind " + n, m.wind(7, n), true);
            DUE.is("wind " + n, m.count(107), n);
        }
        DUE.is("the first", m.wind(0, 9), true);
        DUE.is("the last", m.wind(99, 8), true);
        DUE.is("none later", m.wind(100, 8), false);
        Due.law(m, "mv(1=1)");
        DUE.is("of step 0", m.cell(0, 0, 4), 9);
        m.steps(60);
        DUE.is("of step 60", m.cell(0, 0, 4), 0);
        m.steps(39);
        DUE.is("of step 99", m.cell(0, 0, 4), 8);
        m.steps(1);
        DUE.is("of step 100", m.cell(0, 0, 4), 0);
        m.steps(7);
        DUE.is("of step 107, not that of 7", m.cell(0, 0, 4), 0);
        DUE.is("as told, of step 100", m.count(200), 0);
    }

    private static void level() {
        DUE.sentence("LEVEL of a CELL: 10 times GROUND, COLD, and 30 more if it has trees.");
        MistHands m = new MistHands();
        DUE.is("least", m.cell(0, 0, 7), 0);
        m.ground(0, 0, 1, 0);
        DUE.is("10 times ground", m.cell(0, 0, 7), 10);
        m.air(0, 0, 7, 500);
        DUE.is("and cold, no water", m.cell(0, 0, 7), 17);
        m.ground(0, 0, 1, 2);
        DUE.is("and 30 for trees", m.cell(0, 0, 7), 47);
        m.ground(0, 1, 0, 2);
        DUE.is("trees beside do not count", m.cell(0, 0, 7), 47);
        m.ground(0, 0, 99, 2);
        m.air(0, 0, 9999, 0);
        DUE.is("most", m.cell(0, 0, 7), 990 + 9999 + 30);
    }

    private static int coldBehind(String law, int cold) {
        MistHands m = Due.under(law);
        for (int cell = 0; cell < 144; cell++) {
            m.air(cell % 12, cell / 12, cold, 0);
        }
        m.steps(1);
        return m.cell(6, 6, 2);
    }

    private static int waterBehind(String law, int water) {
        MistHands m = Due.under(law);
        m.air(6, 6, 0, water);
        m.steps(1);
        return m.cell(6, 6, 3);
    }

    private static void comes() {
        DUE.sentence("A STEP: (1) each CELL: COLD more by c, WATER more by w and less by s (all as ahead of the STEP;"
            + " held to 0 and 9999);");
        DUE.is("cold more by c", coldBehind("c7(1=1)", 5), 12);
        DUE.is("cold up to 9999", coldBehind("c99(1=1)", 9900), 9999);
        DUE.is("cold held to 9999", coldBehind("c99(1=1)", 9901), 9999);
        DUE.is("cold held to 9999", coldBehind("c1(1=1)", 9999), 9999);
        DUE.is("cold is not less by s", coldBehind("s9(1=1)", 50), 50);
        DUE.is("cold is not more by w", coldBehind("w9(1=1)", 50), 50);
        DUE.is("water more by w", waterBehind("w7(1=1)", 5), 12);
        DUE.is("water less by s", waterBehind("s7(1=1)", 50), 43);
        DUE.is("water is not more by c", waterBehind("c7(1=1)", 50), 50);
        DUE.is("water up to 9999", waterBehind("w99(1=1)", 9900), 9999);
        DUE.is("water held to 9999", waterBehind("w99(1=1)", 9901), 9999);
        DUE.is("water down to 0", waterBehind("s99(1=1)", 99), 0);
        DUE.is("water held to 0", waterBehind("s99(1=1)", 98), 0);
        DUE.is("more and less", waterBehind("w9(1=1);s4(1=1)", 10), 15);
        DUE.is("less than nothing is held, not what comes alone", waterBehind("w5(1=1);s9(1=1)", 3), 0);
        DUE.is("more and less together, then held", waterBehind("w99(1=1);s9(1=1)", 9999), 9999);
        DUE.is("more and less together, then held", waterBehind("w9(1=1);s99(1=1)", 9999), 9909);
        DUE.is("more and less together, then held", waterBehind("w99(1=1);s99(1=1)", 9950), 9950);
        MistHands m = Due.under("c1(1=1);w2(1=1)");
        m.steps(1);
        DUE.is("each cell", m.sums(0), 144);
        DUE.is("each cell", m.sums(1), 288);
    }

    private static void asAhead() {
        MistHands m = Due.under("c5(w=0);w3(c=0);s2(c=0)");
        m.steps(1);
        DUE.is("w and s by the cold ahead", m.cell(3, 3, 3), 1);
        DUE.is("c by the water ahead", m.cell(3, 3, 2), 5);
        m.steps(1);
        DUE.is("w and s by the cold now", m.cell(3, 3, 3), 1);
        DUE.is("c by the water now", m.cell(3, 3, 2), 5);
        m = Due.under("wt+v*10(1=1)");
        m.wind(0, 1);
        m.wind(1, 2);
        m.steps(1);
        DUE.is("the step ahead, and its wind", m.cell(3, 3, 3), 10);
        m.steps(1);
        DUE.is("the next step, and its wind", m.cell(3, 3, 3), 10 + 21);
        // w is less than s by the water ahead only.
        m = Due.under("w9(1=1);sw(1=1)");
        m.air(3, 3, 0, 5);
        m.steps(1);
        DUE.is("s by the water ahead", m.cell(3, 3, 3), 9);
    }

    private static void runsTo() {
        DUE.sentence("of each CELL to that BESIDE it whose LEVEL is least (of like ones that of the lowest number),");
        int[][] sides = {{5, 4}, {4, 5}, {6, 5}, {5, 6}};
        for (int low = 0; low < 16; low++) {
            MistHands m = new MistHands();
            m.ground(5, 5, 9, 0);
            m.air(5, 5, 40, 0);
            int due = -1;
            for (int side = 0; side < 4; side++) {
                boolean isLow = (low >> side & 1) == 1;
                m.ground(sides[side][0], sides[side][1], isLow ? 3 : 4, 0);
                due = isLow && due < 0 ? side : due;
            }
            due = Math.max(0, due);
            m.steps(1);
            for (int side = 0; side < 4; side++) {
                DUE.is("low ones " + low + ", side " + side, m.cell(sides[side][0], sides[side][1], 2),
                    side == due ? 10 : 0);
            }
        }
        MistHands m = new MistHands();
        m.ground(5, 5, 9, 0);
        m.air(5, 5, 40, 0);
        m.ground(5, 4, 0, 2);
        m.ground(4, 5, 2, 0);
        m.air(4, 5, 0, 0);
        m.ground(6, 5, 1, 0);
        m.air(6, 5, 5, 0);
        m.ground(5, 6, 3, 0);
        m.steps(1);
        DUE.is("level, not ground: 15 against 30, 20 and 30", m.cell(6, 5, 2), 5 - 2 + 10);
        m = new MistHands();
        m.ground(5, 5, 9, 0);
        m.air(5, 5, 40, 0);
        m.ground(5, 4, 3, 0);
        m.ground(4, 5, 0, 2);
        m.ground(6, 5, 3, 0);
        m.ground(5, 6, 3, 0);
        m.steps(1);
        DUE.is("ground 3 is like trees", m.cell(5, 4, 2), 10);
    }

    private static MistHands two(int ground, int cold, int otherGround, int otherCold) {
        MistHands m = new MistHands();
        for (int cell = 0; cell < 24; cell++) {
            m.ground(cell % 12, cell / 12, 99, 0);
        }
        m.ground(0, 0, ground, 0);
        m.air(0, 0, cold, 0);
        m.ground(1, 0, otherGround, 0);
        m.air(1, 0, otherCold, 0);
        return m;
    }

    private static void runsIfBelow() {
        DUE.sentence("if that is below its own:");
        DUE.is("like levels", two(5, 20, 5, 20).steps(1), 0);
        DUE.is("like levels by ground and cold", two(5, 20, 4, 30).steps(1), 0);
        DUE.is("a level more beside", two(5, 20, 5, 21).steps(1), 0);
        DUE.is("2 less beside", two(5, 20, 5, 18).steps(1), 1);
        DUE.is("2 more beside: from there", two(5, 18, 5, 20).steps(1), 1);
        MistHands m = two(5, 18, 5, 20);
        m.steps(1);
        DUE.is("from there", m.cell(0, 0, 2), 19);
        MistHands flat = new MistHands();
        for (int cell = 0; cell < 144; cell++) {
            flat.air(cell % 12, cell / 12, 77, 0);
        }
        DUE.is("all alike", flat.steps(60), 0);
        DUE.is("all alike", flat.sums(0), 144 * 77);
        MistHands high = new MistHands();
        high.ground(3, 3, 99, 2);
        DUE.is("high, but without cold", high.steps(60), 0);
    }

    private static void howMuch() {
        DUE.sentence("a quarter of its COLD, rounded up, or half of how much the LEVELS differ, rounded down,"
            + " whichever is less");
        int[] cold = {0, 1, 2, 3, 4, 5, 7, 8, 9, 40, 41, 9996, 9997, 9998, 9999};
        int[] quarter = {0, 1, 1, 1, 1, 2, 2, 2, 3, 10, 11, 2499, 2500, 2500, 2500};
        for (int i = 0; i < cold.length; i++) {
            MistHands m = two(90, cold[i], 0, 0);
            DUE.is("a quarter of " + cold[i], m.steps(1), quarter[i]);
            DUE.is("left of " + cold[i], m.cell(0, 0, 2), cold[i] - quarter[i]);
            DUE.is("come of " + cold[i], m.cell(1, 0, 2), quarter[i]);
        }
        int[] differ = {1, 2, 3, 4, 5, 18, 19};
        int[] half = {0, 1, 1, 2, 2, 9, 9};
        for (int i = 0; i < differ.length; i++) {
            DUE.is("half of " + differ[i], two(9, 500 + differ[i], 9, 500).steps(1), half[i]);
        }
    }

    private static void whicheverIsLess() {
        // Levels 80 and 80 less what they differ by; a quarter of 40 is 10.
        DUE.is("differ by 22: the quarter", two(4, 40, 5, 8).steps(1), 10);
        DUE.is("differ by 21: both", two(4, 40, 5, 9).steps(1), 10);
        DUE.is("differ by 20: both", two(4, 40, 5, 10).steps(1), 10);
        DUE.is("differ by 19: half", two(4, 40, 5, 11).steps(1), 9);
        MistHands m = new MistHands();
        m.ground(6, 6, 0, 2);
        m.air(6, 6, 40, 0);
        DUE.is("its trees count for the levels", m.steps(1), 10);
        m = new MistHands();
        m.ground(6, 6, 0, 2);
        m.air(6, 6, 1, 0);
        DUE.is("31 differ, the quarter is 1", m.steps(1), 1);
    }

    private static void asBehind() {
        DUE.sentence("(2) COLD RUNS, all CELLS as behind (1):");
        MistHands m = Due.under("c40(x=0&y=0)");
        m.ground(0, 0, 50, 0);
        DUE.is("what came just now runs", m.steps(1), 10);
        m = Due.under("c40(x=1&y=0)");
        m.ground(0, 0, 3, 0);
        m.air(0, 0, 8, 0);
        m.ground(0, 1, 99, 0);
        m.ground(1, 1, 99, 0);
        m.ground(2, 0, 99, 0);
        // Ahead of (1) 0 is higher by 38; behind it 1 is, by 2.
        DUE.is("levels by what came just now", m.steps(1), 1);
        DUE.is("levels by what came just now", m.cell(0, 0, 2), 9);
        // A row that falls: each gives of what it had, not of what just came to it, whichever number is first.
        for (int turn = 0; turn < 2; turn++) {
            m = new MistHands();
            for (int x = 0; x < 12; x++) {
                m.ground(turn == 0 ? x : 11 - x, 0, 90 - 7 * x, 0);
                m.ground(x, 1, 99, 0);
            }
            m.air(turn == 0 ? 0 : 11, 0, 100, 0);
            m.air(turn == 0 ? 1 : 10, 0, 20, 0);
            DUE.is("all at once, turn " + turn, m.steps(1), 25 + 5);
            DUE.is("all at once, turn " + turn, m.cell(turn == 0 ? 1 : 10, 0, 2), 20 - 5 + 25);
            DUE.is("all at once, turn " + turn, m.cell(turn == 0 ? 2 : 9, 0, 2), 5);
            DUE.is("all at once, turn " + turn, m.cell(turn == 0 ? 3 : 8, 0, 2), 0);
        }
    }

    /** 0 has so much cold and 1 beside it gives it half of how much the levels differ; no other one does. */
    private static MistHands nearlyFull(int cold) {
        MistHands m = new MistHands();
        for (int cell : new int[] {1, 2, 12, 13}) {
            m.ground(cell % 12, cell / 12, 99, 0);
            m.air(cell % 12, cell / 12, 9999, 0);
        }
        m.air(0, 0, cold, 0);
        return m;
    }

    private static void held() {
        DUE.sentence("(what comes is held to 9999, the rest is lost);");
        // 2, 12 and 13 give 2500 each to lower ones than 0.
        MistHands m = nearlyFull(9007);
        DUE.is("9998: 991 come to 9007", m.steps(1), 991 + 7500);
        DUE.is("9998", m.cell(0, 0, 2), 9998);
        m = nearlyFull(9009);
        DUE.is("9999: 990 come to 9009", m.steps(1), 990 + 7500);
        DUE.is("9999", m.cell(0, 0, 2), 9999);
        DUE.is("nothing is lost", m.sums(0), 9009 + 4 * 9999);
        m = nearlyFull(9011);
        DUE.is("10000: 989 come to 9011", m.steps(1), 989 + 7500);
        DUE.is("held to 9999", m.cell(0, 0, 2), 9999);
        DUE.is("one is lost", m.sums(0), 9011 + 4 * 9999 - 1);
        DUE.is("it is not given back", m.cell(1, 0, 2), 9999 - 989);
        m = nearlyFull(9999);
        DUE.is("full: 495 come to 9999", m.steps(1), 495 + 7500);
        DUE.is("full", m.cell(0, 0, 2), 9999);
        DUE.is("all that comes is lost", m.sums(0), 5 * 9999 - 495);
    }

    private static void heldBehindGiving() {
        // 1 gives 2500 to 0 and gets 245 of 2, in one step: no more than 9999 at its end, so nothing is lost.
        for (int turn = 0; turn < 2; turn++) {
            MistHands m = new MistHands();
            for (int x = 0; x < 12; x++) {
                m.ground(x, 1, 99, 0);
                m.air(x, 1, 9999, 0);
            }
            int[] place = turn == 0 ? new int[] {0, 1, 2, 3} : new int[] {11, 10, 9, 8};
            m.ground(place[1], 0, 50, 0);
            m.air(place[1], 0, 9999, 0);
            m.ground(place[2], 0, 99, 0);
            m.air(place[2], 0, 9999, 0);
            m.ground(place[3], 0, 99, 0);
            m.air(place[3], 0, 9999, 0);
            m.steps(1);
            DUE.is("gives and gets, turn " + turn, m.cell(place[1], 0, 2), 9999 - 2500 + 245);
        }
    }

    private static void oneMore() {
        DUE.sentence("(3) THE STEP is one more.");
        MistHands m = Due.under("mt(1=1)");
        m.steps(1);
        DUE.is("one more", m.count(0), 1);
        DUE.is("the mist is of the next step", m.cell(0, 0, 4), 1);
        m.steps(60);
        DUE.is("sixty more", m.count(0), 61);
        m.draw(2);
        DUE.is("drawn ones, too", m.count(0), 63);
    }

    private static void ran() {
        DUE.sentence("RAN: all that was given so.");
        MistHands m = nearlyFull(9999);
        int ran = m.steps(1);
        DUE.is("what is lost, too", ran, 495 + 7500);
        DUE.is("so far", m.sums(2), ran);
        m.air(0, 0, 5, 5);
        m.ground(0, 0, 5, 0);
        DUE.is("not what is told", m.sums(2), ran);
        m.night(9, 0);
        m.works(5, 5, 9, 0);
        m.dam(5, 2, 0);
        m.sun(5, 5, 9, 9);
        m.band(9, 9);
        m.soonest(0, 1, 0, 0);
        DUE.is("not what is tried", m.sums(2), ran);
        int more = m.steps(2);
        DUE.is("and more", m.sums(2), ran + more);
        int drawn = m.draw(2);
        DUE.is("and more, drawn", m.sums(2), ran + more + drawn);
        DUE.is("drawn ones ran", drawn > 0, true);
    }

    private static void mistAndTop() {
        DUE.sentence("MIST of a CELL by m as it is;");
        MistHands m = Due.under("mc+w*2(h<9)");
        m.air(3, 3, 10, 4);
        DUE.is("as it is", m.cell(3, 3, 4), 18);
        m.air(3, 3, 11, 4);
        DUE.is("as it is now", m.cell(3, 3, 4), 19);
        m.ground(3, 3, 9, 0);
        DUE.is("as it is now", m.cell(3, 3, 4), 0);
        DUE.sentence("TOP: GROUND and MIST (if MIST is above 0).");
        m = Due.under("mc(1=1)");
        m.ground(3, 3, 40, 0);
        DUE.is("mist 0", m.cell(3, 3, 5), -2);
        m.air(3, 3, 1, 0);
        DUE.is("mist 1", m.cell(3, 3, 5), 41);
        m.ground(3, 3, 99, 0);
        m.air(3, 3, 99, 0);
        DUE.is("mist 99 at 99", m.cell(3, 3, 5), 198);
        m.ground(3, 3, 0, 0);
        m.air(3, 3, 1, 0);
        DUE.is("mist 1 at 0", m.cell(3, 3, 5), 1);
        DUE.is("one cell has mist", m.sums(3), 1);
        DUE.is("the highest top is 1", m.sums(4), 1);
    }
}

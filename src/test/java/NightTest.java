/** The document's second part: nights, sun, frost, works, dams, roads. Each sentence's edges. */
public final class NightTest {
    private static final Due DUE = new Due("night");
    private static final int NONE = MistHands.NONE;

    public static void main(String[] args) {
        howLong();
        nothingElse();
        behindTheFirst();
        highest();
        first();
        sun();
        band();
        works();
        dam();
        damLeast();
        roads();
        goesIn();
        stepThen();
        rounded();
        noYards();
        soonest();
        waiting();
        withoutWaiting();
        edge();
        likeEdges();
        DUE.end();
    }

    private static void howLong() {
        DUE.sentence("==== 2. A NIGHT: STEPS from now on, 1 to 60,");
        MistHands m = Due.under("m1(t=60);c8(t=59)");
        int[] beyond = {0, -1, 61, Integer.MIN_VALUE, Integer.MAX_VALUE};
        for (int n : beyond) {
            DUE.is("night " + n, m.night(n, 4), NONE);
            DUE.is("sun " + n, m.sun(0, 0, 0, n), NONE);
            DUE.is("band " + n, m.band(n, 8), NONE);
            DUE.is("works " + n, m.works(0, 0, n, 0), NONE);
        }
        DUE.is("night of 60", m.night(60, 4), 1);
        DUE.is("night of 59", m.night(59, 4), 0);
        DUE.is("sun of 60", m.sun(0, 0, 0, 60), 59);
        DUE.is("sun of 1", m.sun(0, 0, 0, 1), 1);
        DUE.is("band of 60", m.band(60, 8), 1);
        DUE.is("band of 59", m.band(59, 8), 0);
        DUE.is("works of 60", m.works(0, 0, 60, 0), 1);
        DUE.is("works of 59", m.works(0, 0, 59, 0), 0);
        m.steps(1);
        DUE.is("from now on", m.night(59, 4), 1);
        DUE.is("from now on", m.band(59, 8), 1);
        m.steps(59);
        DUE.is("from now on: not what is now", m.night(60, 4), 0);
        DUE.is("a night of 1", m.night(1, 4), 0);
    }

    private static void nothingElse() {
        DUE.sentence("nothing else being done:");
        Scene.Deed[] deeds = {m -> m.night(60, 0), m -> m.sun(2, 2, 198, 60), m -> m.band(60, 50),
            m -> m.works(5, 5, 60, 2), m -> m.dam(77, 20, 0), m -> m.soonest(0, 9, 0, 0)};
        for (int i = 0; i < deeds.length; i++) {
            DUE.is("deed " + i + " changes", Scene.changed(deeds[i]).isEmpty(), true);
        }
        // No wind is drawn in a night.
        MistHands m = Due.under("mv(1=1)");
        DUE.is("no wind is drawn", m.night(60, 4), 0);
        m.wind(7, 3);
        DUE.is("the told winds count", m.night(60, 4), 1);
        DUE.is("the told winds count", m.night(60, 1), 7);
    }

    private static void behindTheFirst() {
        DUE.sentence("all of them behind the first STEP on.");
        MistHands m = Due.under("m9(t=0);m1(t=3)");
        DUE.is("now does not count", m.night(2, 4), 0);
        DUE.is("the last counts", m.night(3, 4), 1);
        DUE.is("highest", m.night(3, 0), 1);
        DUE.is("sun: now does not count", m.sun(0, 0, 0, 2), 2);
        DUE.is("sun: the last counts", m.sun(0, 0, 0, 3), 2);
        m = new MistHands();
        m.ground(4, 4, 20, 0);
        m.air(4, 4, 100, 0);
        DUE.is("frost: now does not count", m.band(1, 76), 0);
        DUE.is("frost: the first counts", m.band(1, 75), 21);
        MistHands late = Due.under("c60(t=4&x=2&y=2)");
        late.ground(2, 2, 30, 0);
        DUE.is("frost: behind four nothing", late.band(4, 45), 0);
        DUE.is("frost: the fifth is the last", late.band(5, 45), 31);
    }

    private static void highest() {
        DUE.sentence("HIGHEST TOP and the first STEP with it;");
        MistHands m = Due.under("m5(t=2&x=3&y=3);m9(t=4&x=0);m9(t=6&x=0);m8(t=5)");
        m.ground(3, 3, 3, 0);
        DUE.is("of two steps", m.night(2, 0), 8);
        DUE.is("of two steps", m.night(2, 1), 2);
        DUE.is("ground and mist", m.night(5, 0), 11);
        DUE.is("its step", m.night(5, 1), 5);
        m = Due.under("m5(t=2);m9(t=4);m9(t=6);m8(t=5)");
        DUE.is("the highest", m.night(9, 0), 9);
        DUE.is("the first with it", m.night(9, 1), 4);
        DUE.is("of one below", m.night(3, 1), 2);
        m = Due.under("m1(x=11&y=11&t=1)");
        DUE.is("least", m.night(60, 0), 1);
        m = Due.under("c5(1=1);w3(1=1);s1(1=1);mc-w(1=1)");
        m.ground(3, 3, 8, 0);
        // Each step 5 more of cold, and 2 of water: 3 hands more.
        DUE.is("by cold and water as they come", m.night(4, 1), 4);
        DUE.is("by cold and water as they come", m.sun(9, 9, 6, 4), 2);
        m = Due.under("m99(x=11&y=11)");
        m.ground(11, 11, 99, 0);
        DUE.is("most", m.night(60, 0), 198);
        DUE.is("at the first step", m.night(60, 1), 1);
    }

    private static void first() {
        DUE.sentence("FIRST: the first STEP at which some CELL has MIST, the lowest CELL then.");
        MistHands m = Due.under("m1(t>2&x+y*12=100);m50(t>2&x+y*12=101);m9(t>3&x=0)");
        m.ground(4, 8, 90, 0);
        DUE.is("the lowest number, not the lowest ground", m.night(9, 2), 100);
        DUE.is("its step", m.night(9, 3), 3);
        DUE.is("lower ones later do not count", m.night(60, 2), 100);
        m.steps(3);
        DUE.is("from now on", m.night(9, 2), 0);
        DUE.is("from now on", m.night(9, 3), 4);
        m = Due.under("m1(x=11&y=11)");
        DUE.is("the last cell", m.night(1, 2), 143);
        m = Due.under("m1(x=0&y=0)");
        DUE.is("the first cell", m.night(1, 2), 0);
        m = Due.under("m1(t=1&x=5);m1(t>1&x=4)");
        DUE.is("the first step's", m.night(5, 2), 5);
        DUE.is("the first step", m.night(5, 3), 1);
        DUE.is("steps with mist", m.night(5, 4), 5);
    }

    private static void sun() {
        DUE.sentence("SUN at a CELL and a height (from its GROUND to 198):");
        MistHands m = Due.under("m0(1=1)");
        for (int ground : new int[] {0, 1, 50, 99}) {
            m.ground(6, 7, ground, 0);
            DUE.is("below ground " + ground, m.sun(6, 7, ground - 1, 2), NONE);
            DUE.is("at ground " + ground, m.sun(6, 7, ground, 2), 2);
            DUE.is("198 at ground " + ground, m.sun(6, 7, 198, 2), 2);
            DUE.is("199 at ground " + ground, m.sun(6, 7, 199, 2), NONE);
        }
        DUE.is("another's ground does not count", m.sun(7, 6, 0, 2), 2);
        DUE.is("far below", m.sun(6, 7, Integer.MIN_VALUE, 2), NONE);
        DUE.is("far above", m.sun(6, 7, Integer.MAX_VALUE, 2), NONE);
        DUE.sentence("STEPS of the NIGHT at which that height is not below TOP (or no MIST is there).");
        m = Due.under("m4*t(t<4)");
        m.ground(1, 2, 10, 0);
        // Tops 14, 18, 22, and no mist from step 4 on.
        int[] heights = {10, 13, 14, 15, 17, 18, 19, 21, 22, 198};
        int[] due = {3, 3, 4, 4, 4, 5, 5, 5, 6, 6};
        for (int i = 0; i < heights.length; i++) {
            DUE.is("height " + heights[i], m.sun(1, 2, heights[i], 6), due[i]);
        }
        DUE.is("no mist at its ground", Due.under("m9(x=0)").sun(1, 0, 0, 7), 7);
        m = Due.under("m99(1=1)");
        m.ground(1, 2, 99, 0);
        DUE.is("at the highest top", m.sun(1, 2, 198, 7), 7);
        DUE.is("below the highest top", m.sun(1, 2, 197, 7), 0);
    }

    private static void band() {
        DUE.sentence("FROST f (1 to 9999):");
        MistHands m = new MistHands();
        m.air(0, 0, 9999, 0);
        m.ground(0, 0, 9, 0);
        for (int f : new int[] {0, -1, 10000, Integer.MIN_VALUE, Integer.MAX_VALUE}) {
            DUE.is("frost " + f, m.band(1, f), NONE);
        }
        DUE.is("frost 1", m.band(1, 1), 10);
        DUE.is("frost 9999", m.band(1, 9999), 0);
        DUE.is("7499 are left", m.band(1, 7499), 10);
        DUE.is("7500 are not", m.band(1, 7500), 0);
        MistHands full = Due.under("c1(1=1)");
        for (int cell = 0; cell < 144; cell++) {
            full.air(cell % 12, cell / 12, 9999, 0);
        }
        DUE.is("frost 9999 there is", full.band(3, 9999), 1);
        DUE.sentence("THE BAND: the least height (0 to 99) such that no CELL whose GROUND is that or more ever has"
            + " COLD of f or more in the NIGHT.");
        DUE.is("no cold: 0", new MistHands().band(60, 1), 0);
        int[] grounds = {0, 1, 97, 98, 99};
        int[] due = {1, 2, 98, 99, -2};
        for (int i = 0; i < grounds.length; i++) {
            MistHands one = Due.under("c99(x=11&y=11)");
            for (int cell = 0; cell < 144; cell++) {
                one.ground(cell % 12, cell / 12, grounds[i], 0);
            }
            DUE.is("at ground " + grounds[i], one.band(1, 50), due[i]);
        }
        // Cold of 8 at heights 20 and 40 at one step each; each gives 2 of it on at once.
        m = Due.under("c8(t=2&h=40);c8(t=5&h=20)");
        m.ground(3, 3, 40, 0);
        m.ground(8, 8, 20, 0);
        int[] steps = {2, 3, 5, 6, 60};
        int[] heights = {0, 41, 41, 41, 41};
        for (int i = 0; i < steps.length; i++) {
            DUE.is("ever, in " + steps[i], m.band(steps[i], 6), heights[i]);
        }
        DUE.is("f or more", m.band(60, 7), 0);
        m.ground(3, 3, 0, 0);
        DUE.is("the one at 20", m.band(60, 6), 21);
        DUE.is("not yet", m.band(5, 6), 0);
    }

    private static void works() {
        DUE.sentence("WORKS: a CELL more has trees: behind the NIGHT, against without: CELLS with more COLD, with less,"
            + " the CELL that gains most (of like ones the lowest), and how much.");
        MistHands m = new MistHands();
        m.ground(5, 5, 10, 0);
        m.air(5, 5, 40, 0);
        // Without trees 10 go up, to 53; with them to the left, to 64.
        int[] due = {1, 1, 64, 10};
        for (int what = 0; what < 4; what++) {
            DUE.is("one step, what " + what, m.works(5, 4, 1, what), due[what]);
        }
        // Two steps: 65 has 30, then gives 8; 53 (or 64) has 10 and gives 3 to 41 (or 52).
        // Without, 65 gives its 8 to 64; with them, 64 is no lower than 66, which gets them.
        MistHands with = new MistHands();
        with.ground(5, 5, 10, 0);
        with.air(5, 5, 40, 0);
        with.ground(5, 4, 0, 2);
        with.steps(2);
        MistHands without = new MistHands();
        without.ground(5, 5, 10, 0);
        without.air(5, 5, 40, 0);
        without.steps(2);
        int more = 0;
        int less = 0;
        for (int cell = 0; cell < 144; cell++) {
            int gain = with.cell(cell % 12, cell / 12, 2) - without.cell(cell % 12, cell / 12, 2);
            more += gain > 0 ? 1 : 0;
            less += gain < 0 ? 1 : 0;
        }
        DUE.is("as with trees told, more", m.works(5, 4, 2, 0), more);
        DUE.is("as with trees told, less", m.works(5, 4, 2, 1), less);
        DUE.is("gains most", m.works(5, 4, 2, 2), 66);
        DUE.is("how much", m.works(5, 4, 2, 3), 8);
        // Each cell beside trees gets 8 more; and gives 2 of them on: each to another one.
        m = Due.under("cn*8(1=1)");
        DUE.is("four alike gain 6", m.works(6, 6, 1, 3), 6);
        DUE.is("of like ones the lowest", m.works(6, 6, 1, 2), 66);
        DUE.is("four and four others", m.works(6, 6, 1, 0), 8);
        DUE.is("none has less", m.works(6, 6, 1, 1), 0);
        // A river that becomes trees gets no more cold: it has less, none gains.
        m = Due.under("c1(k=1&t=0)");
        m.ground(0, 0, 0, 1);
        DUE.is("no river: less", m.works(0, 0, 1, 1), 1);
        DUE.is("none has more", m.works(0, 0, 1, 0), 0);
        DUE.is("none gains", m.works(0, 0, 1, 2), -2);
        DUE.is("how much: 0", m.works(0, 0, 1, 3), 0);
        DUE.is("it is still a river", m.cell(0, 0, 1), 1);
        m = Due.under("cn(x=11&y=10)");
        DUE.is("the last cell gains", m.works(11, 11, 1, 0) > 0, true);
        // Trees that bring cold themselves: 40, of which 10 go up.
        m = Due.under("c40(k=2)");
        int[] own = {2, 0, 65, 30};
        for (int what = 0; what < 4; what++) {
            DUE.is("the cell itself counts, what " + what, m.works(5, 5, 1, what), own[what]);
        }
    }

    private static void dam() {
        DUE.sentence("A DAM: the CELL (any, but the told one) by whose trees the told CELL has least COLD behind the"
            + " NIGHT (1 to 20 STEPS):");
        MistHands m = new MistHands();
        for (int n : new int[] {0, -1, 21, Integer.MIN_VALUE, Integer.MAX_VALUE}) {
            DUE.is("n " + n, m.dam(5, n, 0), NONE);
        }
        DUE.is("n 1", m.dam(5, 1, 0), 0);
        DUE.is("n 20", m.dam(5, 20, 0), 0);
        MistHands late = Due.under("c9-8*n(t=19&x=5&y=5)");
        DUE.is("the 20th step counts", late.dam(65, 20, 1), 1);
        DUE.is("the 20th step counts", late.dam(65, 20, 0), 53);
        DUE.is("not in 19", late.dam(65, 19, 0), 0);
        // By trees of its own the cell would keep away what comes: but it is the told one.
        m = new MistHands();
        m.ground(5, 5, 10, 0);
        m.air(5, 5, 40, 0);
        DUE.is("but the told one", m.dam(53, 1, 0), 0);
        DUE.is("but the told one", m.dam(53, 1, 1), 10);
        m = Due.under("c9*k(x=0&y=0);c50-50*n(x=11&y=11)");
        m.ground(0, 0, 0, 1);
        DUE.is("the told one is 0", m.dam(0, 1, 0), 1);
        DUE.is("told 0: 9, of which 3 go on", m.dam(0, 1, 1), 6);
        DUE.is("the last one: its left or upper", m.dam(143, 1, 0), 131);
        DUE.is("the last one", m.dam(143, 1, 1), 0);
        // Any: one that has trees already, too.
        m = new MistHands();
        for (int cell = 0; cell < 144; cell++) {
            m.ground(cell % 12, cell / 12, 0, 2);
        }
        DUE.is("all have trees", m.dam(77, 2, 0), 0);
        DUE.is("all have trees, told 0", m.dam(0, 2, 0), 1);
    }

    private static void damLeast() {
        DUE.sentence("of like ones the lowest; told even if it is no less.");
        // Trees beside 65 take 8 away: four are alike.
        MistHands m = Due.under("c20-8*n(x=5&y=5)");
        DUE.is("of four like ones the lowest", m.dam(65, 1, 0), 53);
        DUE.is("12, of which 3 go on", m.dam(65, 1, 1), 9);
        m.ground(5, 4, 0, 2);
        DUE.is("53 has trees: the next", m.dam(65, 1, 0), 64);
        DUE.is("4, of which 1 goes on", m.dam(65, 1, 1), 3);
        m = Due.under("c20+8*n(x=5&y=5)");
        DUE.is("it is no less: told even so", m.dam(65, 1, 0), 0);
        DUE.is("it is no less: told even so", m.dam(65, 1, 1), 15);
        m = Due.under("c1(n=0&x=5&y=5)");
        DUE.is("1 is not least if another one makes it 0", m.dam(65, 1, 0), 53);
        DUE.is("0", m.dam(65, 1, 1), 0);
        m = new MistHands();
        for (int cell = 0; cell < 144; cell++) {
            m.air(cell % 12, cell / 12, 9999, 0);
        }
        DUE.is("all are full: told even so", m.dam(0, 1, 0), 1);
        DUE.is("all are full: told even so", m.dam(0, 1, 1), 9999);
        m = Due.under("c9(x=0&y=0)");
        DUE.is("nothing helps", m.dam(0, 1, 0), 1);
        DUE.is("nothing helps", m.dam(0, 1, 1), 6);
    }

    private static void roads() {
        DUE.sentence("ROADS 0 to 19 between two different NODES (0 to 9), both ways, of a LENGTH (1 to 99), over a CELL"
            + " whose yards count.");
        MistHands m = Due.under("y100(x=11&y=11)");
        DUE.is("road 0", m.road(0, 0, 9, 99, 143), true);
        DUE.is("road 19", m.road(19, 1, 2, 1, 143), true);
        DUE.is("road 18, over a cell without yards", m.road(18, 3, 4, 1, 142), true);
        DUE.is("there", m.soonest(0, 9, 0, 0), 99);
        DUE.is("and back", m.soonest(9, 0, 0, 0), 99);
        DUE.is("there, without waiting", m.soonest(1, 2, 0, 1), 1);
        DUE.is("and back, without waiting", m.soonest(2, 1, 0, 1), 1);
        DUE.is("its own cell's yards", m.soonest(3, 4, 0, 0), -2);
        int[][] wrong = {{-1, 0, 1, 1, 0}, {20, 0, 1, 1, 0}, {5, -1, 1, 1, 0}, {5, 10, 1, 1, 0}, {5, 0, -1, 1, 0},
            {5, 0, 10, 1, 0}, {5, 0, 1, 0, 0}, {5, 0, 1, 100, 0}, {5, 0, 1, 1, -1}, {5, 0, 1, 1, 144},
            {5, 0, 0, 1, 0}, {5, 9, 9, 1, 0}};
        for (int[] a : wrong) {
            DUE.is("road " + java.util.Arrays.toString(a), m.road(a[0], a[1], a[2], a[3], a[4]), false);
        }
        DUE.is("no other road", m.count(4), 1 << 19 | 1 << 18 | 1);
        for (int node = 0; node < 9; node++) {
            m.road(node, node, node + 1, 2, 143);
        }
        DUE.is("over all nodes", m.soonest(0, 9, 0, 0), 2 * 9 - 1);
        DUE.is("over all nodes", m.soonest(9, 0, 0, 1), 2 * 9 - 1);
    }

    /** Roads 0 (nodes 0, 1) and 1 (nodes 1, 2) of these lengths over cell 0, under this law. */
    private static MistHands way(String law, int length, int second) {
        MistHands m = Due.under(law);
        m.road(0, 0, 1, length, 0);
        m.road(1, 1, 2, second, 0);
        return m;
    }

    private static void goesIn() {
        DUE.sentence("One who goes in at a MINUTE (from now, 0 on)");
        MistHands m = way("y100(t<32)", 3, 1);
        DUE.is("minute 0", m.soonest(0, 1, 0, 1), 3);
        DUE.is("minute 1", m.soonest(0, 1, 1, 1), 4);
        DUE.is("minute 297", m.soonest(0, 1, 297, 1), 300);
        m.steps(2);
        DUE.is("from now", m.soonest(0, 1, 0, 1), 3);
        DUE.is("from now", m.soonest(0, 1, 297, 1), 300);
        m.steps(1);
        DUE.is("from now", m.soonest(0, 1, 289, 1), 292);
        DUE.is("from now", m.soonest(0, 1, 290, 1), -2);
        DUE.is("from now", m.soonest(0, 1, 299, 0), -2);
    }

    private static void stepThen() {
        DUE.sentence("the yards of the STEP that is then (MINUTE through 10 STEPS from now; MINUTE 300 and later:"
            + " not),");
        // There is sight in one step only, and the road takes a minute.
        for (int step = 0; step < 30; step++) {
            MistHands m = way("y100(t=" + step + ")", 1, 1);
            DUE.is("the first minute of step " + step, m.soonest(0, 1, 10 * step, 1), 10 * step + 1);
            DUE.is("the last minute of step " + step, m.soonest(0, 1, 10 * step + 9, 1), 10 * step + 10);
            if (step > 0) {
                DUE.is("ahead of step " + step, m.soonest(0, 1, 10 * step - 1, 1), -2);
            }
            if (step < 29) {
                DUE.is("behind step " + step, m.soonest(0, 1, 10 * step + 10, 1), -2);
            }
        }
        DUE.is("none goes in at 300", way("y100(t>29)", 1, 1).soonest(0, 1, 0, 0), -2);
        DUE.is("none goes on at 300", way("y100(1=1)", 10, 1).soonest(0, 2, 290, 0), -2);
        DUE.is("the second at 299", way("y100(1=1)", 9, 1).soonest(0, 2, 290, 0), 300);
        // Behind s steps the cold is 50 s, the mist s hands deep, the yards 100 less 10 s.
        MistHands mist = way("c50(1=1);mc/50(1=1);y100-d*10(1=1)", 1, 1);
        int[] minutes = {1, 2, 2, 2, 2, 2, 3, 4, 5, 10};
        for (int step = 0; step < 10; step++) {
            DUE.is("by the mist of step " + step, mist.soonest(0, 1, 10 * step, 1), 10 * step + minutes[step]);
        }
        DUE.is("by the mist of step 10", mist.soonest(0, 1, 100, 0), -2);
        // The yards of when one goes in count all the way.
        DUE.is("as one goes in", way("y10(t=0);y999(1=1)", 5, 1).soonest(0, 1, 9, 1), 59);
        DUE.is("as one goes in", way("y999(t=0)", 99, 1).soonest(0, 1, 9, 1), 19);
    }

    private static void rounded() {
        DUE.sentence("takes 100 times LENGTH through");
        DUE.is("100 yards, length 7", way("y100(1=1)", 7, 1).soonest(0, 1, 0, 1), 7);
        DUE.is("50 yards, length 7", way("y50(1=1)", 7, 1).soonest(0, 1, 0, 1), 14);
        DUE.sentence("rounded up, MINUTES;");
        int[][] cases = {{1, 100, 1}, {1, 99, 2}, {1, 101, 1}, {1, 999, 1}, {9, 999, 1}, {10, 999, 2}, {99, 999, 10},
            {99, 990, 10}, {99, 989, 11}, {3, 1, 300}, {2, 1, 200}, {99, 33, 300}, {99, 34, 292}, {1, 3, 34},
            {1, 2, 50}};
        for (int[] one : cases) {
            MistHands m = way("y" + one[1] + "(1=1)", one[0], 1);
            DUE.is("length " + one[0] + ", yards " + one[1], m.soonest(0, 1, 0, 0), one[2]);
        }
        DUE.is("one yard, length 4", way("y1(1=1)", 4, 1).soonest(0, 1, 0, 0), -2);
        DUE.is("32 yards, length 99", way("y32(1=1)", 99, 1).soonest(0, 1, 0, 0), -2);
    }

    private static void noYards() {
        DUE.sentence("with 0 yards none goes in.");
        DUE.is("no yards", way("y0(1=1)", 1, 1).soonest(0, 1, 0, 0), -2);
        DUE.is("below 0 yards", way("y0-9(1=1)", 1, 1).soonest(0, 1, 0, 1), -2);
        DUE.is("1 yard", way("y1(1=1)", 1, 1).soonest(0, 1, 0, 1), 100);
        DUE.is("none now, but later", way("y100(t=3)", 1, 1).soonest(0, 1, 0, 0), 31);
        // Who is in already comes out, whatever the yards are by then.
        DUE.is("who is in comes out", way("y100(t=0)", 25, 1).soonest(0, 1, 5, 1), 30);
    }

    private static void soonest() {
        DUE.sentence("SOONEST from a NODE to another one, leaving from a MINUTE on: the least MINUTE (not above 300) at"
            + " which one can be there,");
        MistHands m = way("y100(1=1)", 99, 99);
        DUE.is("198", m.soonest(0, 2, 0, 0), 198);
        DUE.is("300", m.soonest(0, 2, 102, 0), 300);
        DUE.is("301", m.soonest(0, 2, 103, 0), -2);
        DUE.is("300, without waiting", m.soonest(0, 2, 102, 1), 300);
        DUE.is("301, without waiting", m.soonest(0, 2, 103, 1), -2);
        DUE.is("one is there already", m.soonest(2, 2, 299, 0), 299);
        DUE.is("one is there already", m.soonest(2, 2, 0, 1), 0);
        for (int minute : new int[] {-1, 300, 301, Integer.MIN_VALUE, Integer.MAX_VALUE}) {
            DUE.is("minute " + minute, m.soonest(0, 2, minute, 0), NONE);
            DUE.is("minute " + minute, m.soonest(0, 2, minute, 1), NONE);
            DUE.is("minute " + minute, m.soonest(2, 2, minute, 0), NONE);
        }
        // The longer way of more roads may be the sooner one.
        m.road(0, 0, 1, 10, 0);
        m.road(1, 1, 2, 10, 0);
        m.road(2, 0, 2, 21, 0);
        DUE.is("two roads are sooner", m.soonest(0, 2, 0, 0), 20);
        m.road(2, 0, 2, 20, 0);
        DUE.is("both alike", m.soonest(0, 2, 0, 0), 20);
        m.road(2, 0, 2, 19, 0);
        DUE.is("one road is sooner", m.soonest(0, 2, 0, 0), 19);
        m.road(3, 2, 0, 5, 0);
        DUE.is("of two roads between the same nodes", m.soonest(0, 2, 0, 0), 5);
    }

    private static void waiting() {
        DUE.sentence("waiting at NODES as long as one likes;");
        // In step 0 a minute of sight is worth little: who waits till 10 is there sooner.
        MistHands m = way("y10(t=0);y100(1=1)", 10, 10);
        DUE.is("waiting is sooner", m.soonest(0, 1, 0, 0), 20);
        DUE.is("waiting is sooner", m.soonest(0, 1, 9, 0), 20);
        DUE.is("without waiting", m.soonest(0, 1, 0, 1), 100);
        // Closed from step 1 to 28: one waits at the node between.
        m = way("y100(t=0);y100(t=29)", 5, 5);
        DUE.is("at the first node", m.soonest(0, 1, 10, 0), 295);
        DUE.is("on two", m.soonest(0, 2, 5, 0), 295);
        DUE.is("as long as one likes", m.soonest(0, 2, 10, 0), 300);
        DUE.is("not by 300", m.soonest(0, 2, 291, 0), -2);
        DUE.is("on the last minute", way("y100(t=29)", 1, 1).soonest(0, 1, 299, 0), 300);
    }

    private static void withoutWaiting() {
        DUE.sentence("or without waiting (leaving at that MINUTE, going on at once at each NODE).");
        MistHands m = way("y100(t=1)", 5, 5);
        DUE.is("not open at that minute", m.soonest(0, 1, 9, 1), -2);
        DUE.is("open at that minute", m.soonest(0, 1, 10, 1), 15);
        DUE.is("both in step 1", m.soonest(0, 2, 14, 1), 24);
        DUE.is("the second is closed by then", m.soonest(0, 2, 15, 1), -2);
        // One may go back and forth till the next road opens: 0 to 1 and back are 20 minutes.
        m = Due.under("y100(x=0);y100(x=1&t=4)");
        m.road(0, 0, 1, 10, 0);
        m.road(1, 0, 2, 1, 1);
        DUE.is("back and forth, twice", m.soonest(0, 2, 0, 1), 41);
        DUE.is("back and forth, once", m.soonest(0, 2, 25, 1), 46);
        DUE.is("at once", m.soonest(0, 2, 40, 1), 41);
        DUE.is("never in step 4", m.soonest(0, 2, 50, 1), -2);
        DUE.is("waiting", m.soonest(0, 2, 0, 0), 41);
        DUE.is("from the other node", m.soonest(1, 2, 0, 1), -2);
        DUE.is("from the other node", m.soonest(1, 2, 10, 1), 41);
        // Who comes later to a node may be sooner at the end: both of them go on.
        m = Due.under("y100(x<2);y100(x=2&t=2)");
        m.road(0, 0, 1, 10, 0);
        m.road(1, 0, 1, 20, 1);
        m.road(2, 1, 2, 3, 2);
        DUE.is("by the slower road", m.soonest(0, 2, 0, 1), 23);
        DUE.is("as soon by waiting", m.soonest(0, 2, 0, 0), 23);
    }

    private static void edge() {
        DUE.sentence("AN EDGE: of all twos of ROADS that have a NODE in common those whose yards differ most now:");
        int[][] others = {{0, 2}, {2, 0}, {1, 2}, {2, 1}, {0, 1}, {1, 0}};
        for (int[] other : others) {
            MistHands m = Due.under("y70(x=0);y20(x=1)");
            m.road(0, 0, 1, 5, 0);
            m.road(1, other[0], other[1], 5, 1);
            DUE.is("a node in common: " + other[0] + " " + other[1], m.edge(2), 50);
        }
        MistHands m = Due.under("y999(x=0);y0(x=1);y500(x=2);y200(t=3)");
        m.road(0, 0, 1, 5, 0);
        m.road(1, 2, 3, 5, 1);
        DUE.is("no node in common", m.edge(2), -2);
        m.road(2, 1, 2, 5, 2);
        DUE.is("500 and 499", m.edge(2), 500);
        DUE.is("the one without yards", m.edge(0), 1);
        DUE.is("the second", m.edge(1), 2);
        m.road(1, 1, 3, 5, 1);
        DUE.is("most: 999", m.edge(2), 999);
        DUE.is("most: 999", m.edge(0), 0);
        DUE.is("most: 999", m.edge(1), 1);
        m.steps(3);
        DUE.is("now", m.edge(2), 999);
        m = Due.under("y100(t=0&x=0);y30(t=1&x=0)");
        m.road(0, 0, 1, 5, 0);
        m.road(1, 0, 2, 5, 1);
        DUE.is("now", m.edge(2), 100);
        m.steps(1);
        DUE.is("now", m.edge(2), 30);
        m.steps(1);
        DUE.is("now", m.edge(2), 0);
    }

    private static void likeEdges() {
        DUE.sentence("of like ones the least first, then second ROAD (first below second).");
        MistHands m = Due.under("y50(x=1);y20(x=2)");
        m.road(19, 0, 1, 1, 2);
        m.road(18, 0, 2, 1, 1);
        DUE.is("first below second", m.edge(0), 18);
        DUE.is("first below second", m.edge(1), 19);
        m.road(9, 0, 3, 1, 2);
        // 9 with 18, and 18 with 19 differ by 30.
        DUE.is("the least first", m.edge(0), 9);
        DUE.is("the least first", m.edge(1), 18);
        m.road(11, 0, 4, 1, 1);
        DUE.is("then the least second", m.edge(0), 9);
        DUE.is("then the least second", m.edge(1), 11);
        m.road(2, 7, 8, 1, 1);
        m.road(3, 8, 9, 1, 1);
        DUE.is("lower ones that differ less do not count", m.edge(0), 9);
        m.road(3, 8, 9, 1, 2);
        DUE.is("lower ones that differ as much do", m.edge(0), 2);
        DUE.is("lower ones that differ as much do", m.edge(1), 3);
        DUE.is("by so many", m.edge(2), 30);
        m.road(0, 8, 6, 1, 3);
        DUE.is("50 against 0 is more", m.edge(0), 0);
        DUE.is("50 against 0 is more", m.edge(1), 2);
    }
}

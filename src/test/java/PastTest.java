/** The document's third part: nights that were, lines, odds, lids, what is drawn and kept. Each sentence's edges. */
public final class PastTest {
    private static final Due DUE = new Due("past");
    private static final int NONE = MistHands.NONE;

    public static void main(String[] args) {
        nights();
        line();
        prices();
        bestLine();
        tells();
        held();
        alike();
        odds();
        when();
        lid();
        lidOdds();
        drawn();
        windsDrawn();
        kept();
        check();
        DUE.end();
    }

    private static void nights() {
        DUE.sentence("==== 3. NIGHTS that were (60 at most): an evening's numbers i, j, l (0 to 99 each), how high the TOP"
            + " was (0 to 99; 0: no MIST), till which minute it stood (0 to 999).");
        MistHands m = new MistHands();
        int[][] wrong = {{-1, 0, 0, 0, 0}, {100, 0, 0, 0, 0}, {0, -1, 0, 0, 0}, {0, 100, 0, 0, 0}, {0, 0, -1, 0, 0},
            {0, 0, 100, 0, 0}, {0, 0, 0, -1, 0}, {0, 0, 0, 100, 0}, {0, 0, 0, 0, -1}, {0, 0, 0, 0, 1000}};
        for (int[] a : wrong) {
            DUE.is("was " + java.util.Arrays.toString(a), m.was(a[0], a[1], a[2], a[3], a[4]), NONE);
            DUE.is("none is", m.count(3), 0);
        }
        DUE.is("least", m.was(0, 0, 0, 0, 0), 1);
        DUE.is("most", m.was(99, 99, 99, 99, 999), 2);
        DUE.is("no mist: top 0", m.odds(0, 0, 0, 0, 0), 0);
        DUE.is("mist: top 99", m.odds(99, 99, 99, 0, 0), 1);
        m.was(50, 50, 50, 1, 0);
        DUE.is("mist: top 1, though till 0", m.odds(50, 50, 50, 0, 0), 1);
        m.was(40, 40, 40, 0, 999);
        DUE.is("no mist: top 0, though till 999", m.odds(40, 40, 40, 0, 0), 0);
        for (int night = 5; night <= 60; night++) {
            DUE.is("night " + night, m.was(10, 10, 10, 5, 5), night);
        }
        DUE.is("61", m.was(10, 10, 10, 5, 5), NONE);
        DUE.is("60 at most", m.count(3), 60);
        DUE.is("the last one counts", m.odds(10, 10, 10, 0, 2), 5);
    }

    private static MistHands one(int i, int j, int l, int top) {
        MistHands m = new MistHands();
        m.was(i, j, l, top, 0);
        return m;
    }

    private static void line() {
        DUE.sentence("A LINE for one of the three numbers: MIST is said if it is LINE (0 to 100) or more:");
        DUE.is("number 3", new MistHands().line(3, 1, 1, 0), NONE);
        DUE.is("number -1", new MistHands().line(-1, 1, 1, 0), NONE);
        // A night without mist is not said from the line just above its number on.
        for (int number : new int[] {0, 1, 50, 98, 99}) {
            DUE.is("line of i " + number, one(number, 7, 7, 0).line(0, 5, 5, 1), number + 1);
            DUE.is("line of j " + number, one(7, number, 7, 0).line(1, 5, 5, 1), number + 1);
            DUE.is("line of l " + number, one(7, 7, number, 0).line(2, 5, 5, 1), number + 1);
            DUE.is("cost, i " + number, one(number, 7, 7, 0).line(0, 5, 5, 0), 0);
        }
        DUE.is("mist: line 0", one(0, 0, 0, 1).line(0, 5, 5, 1), 0);
        // 40 has mist, 39 none: just the line 40 says it rightly.
        MistHands m = one(40, 39, 0, 1);
        m.was(39, 40, 0, 0, 0);
        DUE.is("if it is the line or more", m.line(0, 5, 5, 1), 40);
        DUE.is("if it is the line or more", m.line(0, 5, 5, 0), 0);
        DUE.is("the wrong way round, all said", m.line(1, 5, 4, 0), 4);
        DUE.is("the wrong way round, all said", m.line(1, 5, 4, 1), 0);
        DUE.is("the wrong way round, none said", m.line(1, 4, 5, 0), 4);
        DUE.is("the wrong way round, none said", m.line(1, 4, 5, 1), 41);
    }

    private static void prices() {
        DUE.sentence("each night with MIST that is not said costs a told PRICE, each one said without MIST another"
            + " one:");
        // Number l is 5 in all: three with mist, two without.
        MistHands m = new MistHands();
        for (int night = 0; night < 5; night++) {
            m.was(night, 0, 5, night < 3 ? 9 : 0, 0);
        }
        DUE.is("none said: three at 10", m.line(2, 10, 16, 0), 30);
        DUE.is("none said: line 6", m.line(2, 10, 16, 1), 6);
        DUE.is("all said: two at 14", m.line(2, 10, 14, 0), 28);
        DUE.is("all said: line 0", m.line(2, 10, 14, 1), 0);
        DUE.is("alike: line 0", m.line(2, 10, 15, 1), 0);
        DUE.is("not said is free", m.line(2, 0, 999, 0), 0);
        DUE.is("said is free", m.line(2, 999, 0, 0), 0);
        DUE.is("both free", m.line(2, 0, 0, 0), 0);
        for (int price : new int[] {-1, 1000, Integer.MIN_VALUE, Integer.MAX_VALUE}) {
            DUE.is("price " + price, m.line(2, price, 1, 0), NONE);
            DUE.is("price " + price, m.line(2, 1, price, 0), NONE);
            DUE.is("price " + price, m.tells(price, 1), NONE);
            DUE.is("price " + price, m.tells(1, price), NONE);
            DUE.is("price " + price, m.held(price, 1), NONE);
            DUE.is("price " + price, m.held(1, price), NONE);
        }
        MistHands sixty = new MistHands();
        for (int night = 0; night < 60; night++) {
            sixty.was(5, 5, 5, night % 2, 0);
        }
        DUE.is("thirty at 999", sixty.line(0, 999, 999, 0), 30 * 999);
        DUE.is("thirty at 999, none said", sixty.held(999, 998), 30 * 999);
        DUE.is("thirty at 998, all said", sixty.line(0, 999, 998, 0), 30 * 998);
    }

    private static void bestLine() {
        DUE.sentence("the LINE of least cost, of like ones the lowest;");
        MistHands m = new MistHands();
        DUE.is("no nights: all lines are alike", m.line(0, 9, 9, 1), 0);
        m.was(20, 0, 0, 0, 0);
        m.was(60, 0, 0, 5, 0);
        DUE.is("21 to 60 are alike", m.line(0, 9, 9, 1), 21);
        m.was(30, 0, 0, 5, 0);
        m.was(50, 0, 0, 0, 0);
        DUE.is("21 to 30 cost one said, 51 to 60 one not said", m.line(0, 9, 9, 1), 21);
        DUE.is("one said is dearer", m.line(0, 8, 9, 1), 51);
        DUE.is("one said is dearer", m.line(0, 8, 9, 0), 8);
        m = new MistHands();
        m.was(99, 0, 0, 0, 0);
        DUE.is("the line 100", m.line(0, 9, 9, 1), 100);
        m.was(99, 0, 0, 5, 0);
        DUE.is("100 is like 0", m.line(0, 9, 9, 1), 0);
        DUE.is("100 is less", m.line(0, 8, 9, 1), 100);
    }

    private static void tells() {
        DUE.sentence("TELLS most: the number whose best LINE costs least (of like ones the first).");
        int[][] alike = {{0, 0, 0, 0}, {1, 0, 0, 1}, {0, 1, 0, 0}, {0, 0, 1, 0}, {1, 1, 0, 2}, {1, 0, 1, 1}, {0, 1, 1, 0}};
        for (int[] bad : alike) {
            // A number that is the same in both nights tells nothing.
            MistHands m = new MistHands();
            m.was(10, 10, 10, 0, 0);
            m.was(bad[0] == 1 ? 10 : 20, bad[1] == 1 ? 10 : 20, bad[2] == 1 ? 10 : 20, 5, 0);
            DUE.is("bad ones " + bad[0] + bad[1] + bad[2], m.tells(7, 5), bad[3]);
            DUE.is("all free", m.tells(0, 0), 0);
        }
        DUE.is("no nights", new MistHands().tells(9, 9), 0);
        // i is alike in all, j tells all rightly, l all but one: costs 6, 0 and 3.
        MistHands m = new MistHands();
        m.was(7, 50, 50, 5, 0);
        m.was(7, 60, 60, 5, 0);
        m.was(7, 10, 10, 0, 0);
        m.was(7, 20, 55, 0, 0);
        DUE.is("6, 0 and 3", m.tells(5, 3), 1);
        m = new MistHands();
        m.was(50, 50, 7, 5, 0);
        m.was(60, 60, 7, 5, 0);
        m.was(55, 10, 7, 0, 0);
        m.was(20, 20, 7, 0, 0);
        DUE.is("3, 0 and 6", m.tells(5, 3), 1);
        m = new MistHands();
        m.was(7, 50, 50, 5, 0);
        m.was(7, 60, 60, 5, 0);
        m.was(7, 55, 10, 0, 0);
        m.was(7, 20, 20, 0, 0);
        DUE.is("6, 3 and 0", m.tells(5, 3), 2);
        m.was(7, 99, 99, 0, 0);
        // Now all said costs 9, none said 10: one more that is said costs 3 more.
        DUE.is("9, 6 and 3", m.tells(5, 3), 2);
    }

    private static void held() {
        DUE.sentence("HELD: what THE LAW's f costs so.");
        MistHands m = new MistHands();
        DUE.is("no nights", m.held(999, 999), 0);
        m.was(10, 20, 30, 5, 0);
        m.was(20, 20, 30, 5, 0);
        m.was(30, 20, 30, 0, 0);
        DUE.is("no law: none is said", m.held(100, 1), 200);
        Due.law(m, "f1(1=1)");
        DUE.is("all are said", m.held(100, 1), 1);
        Due.law(m, "f1(i>19)");
        DUE.is("from 20 on", m.held(100, 1), 101);
        Due.law(m, "f1(i<20);f0-1(i=20)");
        DUE.is("the first", m.held(100, 1), 100);
        Due.law(m, "f1(i<30)");
        DUE.is("as it was", m.held(100, 1), 0);
        Due.law(m, "f1(i=30)");
        DUE.is("all wrong", m.held(100, 1), 201);
        Due.law(m, "f1(1/0=1);f1/[i-10](1=1)");
        DUE.is("refused: not said", m.held(100, 1), 100 + 100);
        Due.law(m, "f20/[i-10](1=1)");
        DUE.is("refused at 10: not said", m.held(100, 1), 100 + 1);
    }

    private static void alike() {
        DUE.sentence("ALIKE is a NIGHT whose three numbers each differ from told ones by a told width (0 to 99) at most:");
        for (int width : new int[] {0, 1, 20, 49}) {
            for (int by : new int[] {-width - 1, -width, width, width + 1}) {
                boolean isAlike = Math.abs(by) <= width;
                DUE.is("i by " + by + " in " + width, one(50 + by, 50, 50, 5).odds(50, 50, 50, width, 0),
                    isAlike ? 1 : -2);
                DUE.is("j by " + by + " in " + width, one(50, 50 + by, 50, 5).odds(50, 50, 50, width, 0),
                    isAlike ? 1 : -2);
                DUE.is("l by " + by + " in " + width, one(50, 50, 50 + by, 5).odds(50, 50, 50, width, 0),
                    isAlike ? 1 : -2);
            }
        }
        DUE.is("all by the width", one(45, 55, 45, 5).odds(50, 50, 50, 5, 0), 1);
        DUE.is("all by the width and one more", one(45, 55, 44, 5).odds(50, 50, 50, 5, 0), -2);
        DUE.is("width 99", one(0, 99, 0, 5).odds(99, 0, 99, 99, 0), 1);
        DUE.is("width 98", one(0, 99, 0, 5).odds(99, 0, 99, 98, 0), -2);
        DUE.is("width 100", one(0, 0, 0, 5).odds(0, 0, 0, 100, 0), NONE);
        DUE.is("width -1", one(0, 0, 0, 5).odds(0, 0, 0, -1, 0), NONE);
    }

    private static void odds() {
        DUE.sentence("ODDS: those with MIST through all ALIKE; the highest TOP among them.");
        MistHands m = new MistHands();
        for (int night = 0; night < 12; night++) {
            m.was(night, 0, 0, night % 3 == 0 ? 40 - night : 0, 0);
        }
        // Of 0 to 11 those with mist are 0, 3, 6 and 9: tops 40, 37, 34 and 31.
        int[][] cases = {{0, 0, 1, 1, 40}, {1, 0, 0, 1, 0}, {1, 1, 1, 3, 40}, {4, 1, 1, 3, 37}, {5, 2, 2, 5, 37},
            {7, 1, 1, 3, 34}, {6, 3, 3, 7, 37}, {99, 99, 1, 3, 40}, {99, 88, 0, 1, 0}, {99, 90, 1, 3, 31},
            {0, 3, 1, 2, 40}};
        for (int[] one : cases) {
            for (int what = 0; what < 3; what++) {
                DUE.is("at " + one[0] + " by " + one[1] + ", what " + what,
                    m.odds(one[0], 0, 0, one[1], what), one[2 + what]);
            }
        }
        DUE.is("none is alike", m.odds(99, 0, 0, 87, 0), -2);
        MistHands sixty = new MistHands();
        for (int night = 0; night < 60; night++) {
            sixty.was(5, 5, 5, night < 36 ? night + 1 : 0, 0);
        }
        DUE.is("36 of 60", sixty.odds(5, 5, 5, 0, 0), 3);
        DUE.is("36 of 60", sixty.odds(5, 5, 5, 0, 1), 5);
        DUE.is("the highest of 36", sixty.odds(5, 5, 5, 0, 2), 36);
    }

    private static MistHands stood(int... tills) {
        MistHands m = new MistHands();
        for (int till : tills) {
            m.was(0, 0, 0, 1, till);
        }
        return m;
    }

    private static void when() {
        DUE.sentence("WHEN to send off: a minute (0 to 999): over all NIGHTS with MIST each minute that it stood longer"
            + " costs a told PRICE, each minute that it stood less another one: the minute of least cost;"
            + " of like ones the lowest.");
        DUE.is("no nights", stood().when(9, 9, 0), 0);
        DUE.is("no nights cost nothing", stood().when(9, 9, 1), 0);
        DUE.is("the first minute", stood(0).when(9, 9, 0), 0);
        DUE.is("the last minute", stood(999).when(9, 9, 0), 999);
        DUE.is("at it nothing costs", stood(999).when(9, 9, 1), 0);
        DUE.is("between", stood(100, 300).when(9, 8, 0), 300);
        DUE.is("200 minutes less at 8", stood(100, 300).when(9, 8, 1), 1600);
        DUE.is("between", stood(100, 300).when(8, 9, 0), 100);
        DUE.is("200 minutes longer at 8", stood(100, 300).when(8, 9, 1), 1600);
        DUE.is("of like ones the lowest", stood(100, 300).when(7, 7, 0), 100);
        DUE.is("the middle one", stood(300, 100, 120).when(1, 1, 0), 120);
        DUE.is("20 and 180", stood(300, 100, 120).when(1, 1, 1), 200);
        DUE.is("longer is free", stood(300, 100, 120).when(0, 1, 0), 0);
        DUE.is("less is free", stood(300, 100, 120).when(1, 0, 0), 300);
        DUE.is("both free", stood(300, 100, 120).when(0, 0, 0), 0);
        MistHands m = stood(500);
        m.was(0, 0, 0, 0, 900);
        m.was(0, 0, 0, 0, 901);
        DUE.is("only nights with mist", m.when(9, 1, 0), 500);
        DUE.is("only nights with mist", m.when(9, 1, 1), 0);
        int[] far = new int[60];
        for (int night = 0; night < 60; night++) {
            far[night] = night < 30 ? 0 : 999;
        }
        DUE.is("the dearest", stood(far).when(99, 99, 1), 30 * 999 * 99);
        DUE.is("the dearest", stood(far).when(99, 99, 0), 0);
        for (int price : new int[] {-1, 100, Integer.MIN_VALUE, Integer.MAX_VALUE}) {
            DUE.is("price " + price, m.when(price, 1, 0), NONE);
            DUE.is("price " + price, m.when(1, price, 0), NONE);
        }
    }

    private static void lid() {
        DUE.sentence("A LID breaks when pushes come to its strength (1 to 200) together: in each of n STEPS (1 to 12) one"
            + " of 0 to k (1 to 9), all alike:");
        MistHands m = new MistHands();
        int[][] wrong = {{0, 1, 1}, {-1, 1, 1}, {201, 1, 1}, {1, 0, 1}, {1, -1, 1}, {1, 13, 1}, {1, 1, 0}, {1, 1, -1},
            {1, 1, 10}};
        for (int[] a : wrong) {
            for (int what = 0; what < 2; what++) {
                DUE.is("lid " + java.util.Arrays.toString(a), m.lid(a[0], a[1], a[2], what), -1);
            }
        }
        DUE.is("what -1", m.lid(1, 1, 1, -1), -1);
        DUE.is("what 2", m.lid(1, 1, 1, 2), -1);
        DUE.is("comes to its strength", m.lid(9, 1, 9, 0), 1);
        DUE.is("one of ten", m.lid(9, 1, 9, 1), 10);
        DUE.is("does not come to it", m.lid(10, 1, 9, 0), 0);
        DUE.is("does not come to it", m.lid(10, 1, 9, 1), 1);
        DUE.is("together", m.lid(18, 2, 9, 0), 1);
        DUE.is("one of a hundred", m.lid(18, 2, 9, 1), 100);
        DUE.is("the longest, the most", m.lid(108, 12, 9, 1), 1_000_000_000_000L);
        DUE.is("the longest, one less", m.lid(107, 12, 9, 0), 13);
        DUE.is("never", m.lid(109, 12, 9, 0), 0);
        DUE.is("the strongest", m.lid(200, 12, 9, 0), 0);
        DUE.is("the strongest", m.lid(200, 12, 9, 1), 1);
        DUE.is("twelve pushes of 0 or 1", m.lid(12, 12, 1, 1), 4096);
        DUE.is("all but one of 4096", m.lid(1, 12, 1, 0), 4095);
    }

    private static void lidOdds() {
        DUE.sentence("ODDS that it has broken by then.");
        for (int n = 1; n <= 4; n++) {
            for (int k = 1; k <= 5; k++) {
                MistHands m = new MistHands();
                int all = (int) Math.pow(k + 1, n);
                for (int strength = 1; strength <= n * k + 1; strength++) {
                    int broken = 0;
                    for (int way = 0; way < all; way++) {
                        broken += pushed(way, k + 1) >= strength ? 1 : 0;
                    }
                    int divisor = common(broken, all);
                    String name = strength + " " + n + " " + k;
                    DUE.is("above, lid " + name, m.lid(strength, n, k, 0), broken / divisor);
                    DUE.is("below, lid " + name, m.lid(strength, n, k, 1), all / divisor);
                }
            }
        }
    }

    /** The pushes of one way, which is a number of so many signs. */
    private static int pushed(int way, int signs) {
        return way == 0 ? 0 : way % signs + pushed(way / signs, signs);
    }

    private static int common(int a, int b) {
        return a == 0 ? b : common(b % a, a);
    }

    private static void drawn() {
        DUE.sentence("DRAWN: n STEPS (1 to 60):");
        MistHands m = new MistHands();
        for (int n : new int[] {0, -1, 61, Integer.MIN_VALUE, Integer.MAX_VALUE}) {
            DUE.is("draw " + n, m.draw(n), NONE);
            DUE.is("no step", m.count(0), 0);
            DUE.is("X stays", m.count(5), 1);
        }
        DUE.is("draw 1", m.draw(1), 0);
        DUE.is("one step", m.count(0), 1);
        DUE.is("draw 60", m.draw(60), 0);
        DUE.is("sixty more", m.count(0), 61);
        DUE.sentence("ahead of each X = (25173 X + 13849) modulo 65536 (X is THE SEED at first, 1):");
        m = new MistHands();
        DUE.is("the seed", m.count(5), 1);
        long x = 1;
        for (int i = 0; i < 120; i++) {
            m.draw(1);
            x = (25173 * x + 13849) % 65536;
            DUE.is("X behind " + (i + 1), m.count(5), x);
        }
        MistHands sixty = new MistHands();
        sixty.draw(60);
        sixty.draw(60);
        DUE.is("as many at once", sixty.count(5), x);
        for (int seed : new int[] {0, 1, 2, 65534, 65535}) {
            m = new MistHands();
            m.seed(seed);
            m.draw(1);
            DUE.is("from the seed " + seed, m.count(5), (25173L * seed + 13849) % 65536);
        }
        m.steps(9);
        DUE.is("steps that are not drawn leave X", m.count(5), (25173L * 65535 + 13849) % 65536);
    }

    private static void windsDrawn() {
        DUE.sentence("THE STEP's WIND is X modulo 10 (of STEPS up to 99); then the STEP.");
        MistHands m = Due.under("wv+1(1=1)");
        m.steps(60);
        m.steps(37);
        int x = 1;
        int water = 97;
        for (int step = 97; step < 103; step++) {
            m.draw(1);
            x = (25173 * x + 13849) % 65536;
            int wind = step > 99 ? 0 : x % 10;
            if (step <= 99) {
                DUE.is("wind of " + step, m.count(100 + step), wind);
            }
            water += wind + 1;
            DUE.is("the wind is drawn ahead of step " + step, m.cell(3, 3, 3), water);
        }
        DUE.is("the wind of 99 is not 0", m.count(199) > 0, true);
        for (int step = 0; step < 97; step++) {
            DUE.is("no other wind is drawn, " + step, m.count(100 + step), 0);
        }
        m = new MistHands();
        m.wind(0, 9);
        m.wind(1, 9);
        m.draw(1);
        DUE.is("in place of a told one", m.count(100), 39022 % 10);
        DUE.is("the next one stays", m.count(101), 9);
    }

    private static void kept() {
        DUE.sentence("KEPT: CELLS, THE STEP, WINDS, RAN, X; UNDONE: as they were KEPT last.");
        MistHands m = Scene.made();
        m.keep();
        m.ground(0, 0, 77, 4);
        m.air(0, 0, 77, 78);
        m.wind(0, 1);
        m.wind(99, 9);
        m.draw(9);
        m.seed(9);
        m.undo();
        MistHands same = Scene.made();
        for (int cell = 0; cell < 144; cell += 2) {
            for (int what = 0; what < 4; what++) {
                DUE.is("cell " + cell + " " + what, m.cell(cell % 12, cell / 12, what),
                    same.cell(cell % 12, cell / 12, what));
            }
        }
        for (int what = 0; what < 6; what++) {
            DUE.is("count " + what, m.count(what), same.count(what));
        }
        DUE.is("ran", m.sums(2), same.sums(2));
        DUE.is("wind of 0", m.count(100), same.count(100));
        DUE.is("wind of 99", m.count(199), same.count(199));
        DUE.is("it goes on as before", m.draw(9), same.draw(9));
        DUE.is("it goes on as before", m.sums(0), same.sums(0));
        others();
        m = new MistHands();
        m.keep();
        m.steps(5);
        m.keep();
        m.steps(5);
        DUE.is("undone", m.undo(), true);
        DUE.is("as kept last", m.count(0), 5);
        m.air(1, 1, 5, 6);
        m.ground(1, 1, 7, 2);
        m.wind(3, 8);
        m.draw(4);
        DUE.is("undone again", m.undo(), true);
        for (int what = 0; what < 4; what++) {
            DUE.is("what is kept is not changed by what comes later", m.cell(1, 1, what), 0);
        }
        DUE.is("what is kept is not changed by what comes later", m.count(103), 0);
        DUE.is("what is kept is not changed by what comes later", m.count(105), 0);
        DUE.is("what is kept is not changed by what comes later", m.count(5), 1);
        DUE.is("what is kept is not changed by what comes later", m.sums(2), 0);
    }

    private static void others() {
        MistHands m = new MistHands();
        m.keep();
        Due.law(m, "m1(1=1);m2(1=1)");
        m.road(3, 0, 1, 5, 5);
        m.was(1, 1, 1, 1, 1);
        m.feed(1, 2, 3, 4, 5);
        m.undo();
        int[] due = {0, 2, 20, 1, 8, 1};
        for (int what = 0; what < 6; what++) {
            DUE.is("law, tape, nights and roads stay, " + what, m.count(what), due[what]);
        }
        DUE.is("the law stays", m.cell(0, 0, 4), 1);
        DUE.is("the tape stays", m.check(0, 1), 0);
    }

    private static void check() {
        DUE.sentence("CHECK of a row y: COLD of its CELLS: right, or the first number that is not so.");
        MistHands m = new MistHands();
        for (int cell = 0; cell < 144; cell++) {
            m.air(cell % 12, cell / 12, cell, 500);
        }
        for (int y = 0; y < 12; y++) {
            int c = 12 * y;
            m.feed(c, c + 1, c + 2, c + 3, c + 4);
            m.feed(c + 5, c + 6, c + 7, c + 8, c + 9);
            m.feed(c + 10, c + 11, 0, 0, 0);
            DUE.is("row " + y + " is right", m.check(y, 12), NONE);
            m.feed(c, c + 1, c + 3, c + 3, 7777);
            DUE.is("row " + y + ", the first that is not so", m.check(y, 5), 2);
        }
        m.air(0, 0, 9999, 0);
        m.feed(9999, 0, 0, 0, 0);
        DUE.is("the most", m.check(0, 1), NONE);
        m.feed(-9999, 0, 0, 0, 0);
        DUE.is("a number below 0", m.check(0, 1), 0);
        m.feed(9999 + (1 << 16), 0, 0, 0, 0);
        DUE.is("a number above", m.check(0, 1), 0);
        m.feed(500, 500, 500, 500, 500);
        DUE.is("not water", m.check(0, 5), 0);
    }
}

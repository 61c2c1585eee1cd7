import java.util.Arrays;
import java.util.List;

/**
 * Each promise's own words: of each number that a call takes the last one that is allowed and the first one that
 * is not, on both sides; what is answered when there is none, when something is empty or full; and what a call
 * changes: a refused one and one that only asks nothing at all.
 */
public final class CallsTest {
    private static final Due DUE = new Due("calls");
    private static final int NONE = MistHands.NONE;

    private interface Call {
        long on(MistHands m, int[] a);
    }

    public static void main(String[] args) {
        lastCall();
        refusedChangesNothing();
        promise1();
        promises2To4();
        promise5();
        promise6();
        promise7();
        promises8And9();
        promises10To12();
        promises13And14();
        promises15To17();
        promise18();
        promises19To21();
        promises22To24();
        promises25And26();
        promises27And28();
        promise29();
        promise30();
        DUE.end();
    }

    private static long as(boolean answer) {
        return answer ? 1 : 0;
    }

    /** The answer, and that it changes nothing: for a call that is refused, or that only asks. */
    private static void still(String call, Scene.Deed deed, long due) {
        DUE.is(call, Scene.answer(deed), due);
        unchanged(call, deed);
    }

    private static void unchanged(String call, Scene.Deed deed) {
        DUE.is(call + " changes " + Scene.changed(deed), Scene.changed(deed).isEmpty(), true);
    }

    /** The answer, and all that is changed by it. */
    private static void taken(String call, Scene.Deed deed, long due, String... changes) {
        DUE.is(call, Scene.answer(deed), due);
        List<String> all = Scene.changedItself(deed);
        Arrays.sort(changes);
        DUE.is(call + " changes " + all + ", not " + Arrays.toString(changes), all.equals(List.of(changes)), true);
    }

    /** One number after the other beyond its bounds, on both sides, refused; and at its bounds, taken. */
    private static void bounds(String name, Call call, long refusal, int[] good, int[] low, int[] high) {
        for (int i = 0; i < good.length; i++) {
            for (int beyond : new int[] {low[i] - 1, high[i] + 1, Integer.MIN_VALUE, Integer.MAX_VALUE}) {
                int[] a = good.clone();
                a[i] = beyond;
                still(name + Arrays.toString(a), m -> call.on(m, a), refusal);
            }
            for (int last : new int[] {low[i], high[i]}) {
                int[] a = good.clone();
                a[i] = last;
                DUE.is(name + Arrays.toString(a) + " is refused", Scene.answer(m -> call.on(m, a)) == refusal, false);
            }
        }
    }

    /** As bounds, of a call that only asks: what is allowed changes nothing, either. */
    private static void askingBounds(String name, Call call, long refusal, int[] good, int[] low, int[] high) {
        bounds(name, call, refusal, good, low, high);
        unchanged(name + Arrays.toString(good), m -> call.on(m, good));
        unchanged(name + Arrays.toString(low), m -> call.on(m, low));
        unchanged(name + Arrays.toString(high), m -> call.on(m, high));
    }

    private static int[] row(int... numbers) {
        return numbers;
    }

    private static void lastCall() {
        DUE.sentence("An object is used for at most 512 calls after it has been made;");
        MistHands m = Due.under("c9(x=3&y=3);w1(c=0)");
        m.ground(3, 3, 40, 2);
        for (int call = 3; call < 510; call++) {
            DUE.is("call " + (call + 1), m.steps(60) >= 0, true);
        }
        DUE.is("the 511th call", m.count(0), 507 * 60);
        DUE.is("the 512th call", m.cell(3, 3, 0), 40);
    }

    private static void refusedChangesNothing() {
        DUE.sentence("A call that is refused (NONE, false) changes nothing but the tape, where it is told.");
        still("ground, all wrong", m -> as(m.ground(-1, 12, 100, 5)), 0);
        still("air, all wrong", m -> as(m.air(12, -1, 10000, -1)), 0);
        still("wind, all wrong", m -> as(m.wind(100, 10)), 0);
        still("road, all wrong", m -> as(m.road(20, 10, 10, 100, 144)), 0);
        still("was, all wrong", m -> m.was(100, 100, 100, 100, 1000), NONE);
        still("steps(0)", m -> m.steps(0), NONE);
        still("draw(0)", m -> m.draw(0), NONE);
        still("seed(-1)", m -> as(m.seed(-1)), 0);
        still("law(0): the tape, too", m -> m.law(0), NONE);
        still("check(12, 1): the tape, too", m -> m.check(12, 1), -2);
        DUE.sentence("All memory is the valley's own.");
        MistHands one = Scene.made();
        MistHands other = new MistHands();
        one.steps(3);
        one.keep();
        for (int what = 0; what < 5; what++) {
            DUE.is("another object's count " + what, other.count(what), 0);
            DUE.is("another object's sum " + what, other.sums(what), 0);
        }
        DUE.is("another object's X", other.count(5), 1);
        DUE.is("another object keeps nothing", other.undo(), false);
        DUE.is("another object's edge", other.edge(0), -2);
        DUE.is("another object's nights", other.odds(50, 50, 50, 99, 0), -2);
        DUE.sentence("The constants: `NONE = -1`: There is none.");
        DUE.is("NONE", MistHands.NONE, -1);
    }

    private static void promise1() {
        DUE.sentence("`MistHands()`: All CELLS 0; no LAW, ROADS, NIGHTS; THE SEED 1.");
        for (int y = 0; y < 12; y++) {
            MistHands m = new MistHands();
            for (int x = 0; x < 12; x++) {
                for (int what = 0; what < 8; what++) {
                    DUE.is("cell " + x + " " + y + " " + what, m.cell(x, y, what), what == 5 ? -2 : 0);
                }
            }
        }
        MistHands m = new MistHands();
        DUE.is("no law", m.count(1), 0);
        DUE.is("no bytes", m.count(2), 0);
        DUE.is("no nights", m.count(3), 0);
        DUE.is("no roads", m.count(4), 0);
        DUE.is("the seed", m.count(5), 1);
        DUE.is("no roads", m.edge(0), -2);
        DUE.is("no roads", m.soonest(0, 1, 0, 0), -2);
        DUE.is("no nights", m.odds(0, 0, 0, 99, 0), -2);
        DUE.is("no law, nothing comes", m.steps(60), 0);
        DUE.is("no law, nothing comes", m.sums(0) + m.sums(1) + m.sums(2), 0);
        DUE.is("no law, no mist", m.night(60, 4), 0);
        m.draw(1);
        DUE.is("drawn by the seed 1", m.count(5), (25173 + 13849) % 65536);
    }

    private static void promises2To4() {
        DUE.sentence("`boolean ground(int x, int y, int hands, int sort)`: GROUND and SORT of a CELL: true;"
            + " false: no such ones.");
        bounds("ground", (m, a) -> as(m.ground(a[0], a[1], a[2], a[3])), 0,
            row(2, 2, 5, 1), row(0, 0, 0, 0), row(11, 11, 99, 4));
        taken("ground", m -> as(m.ground(11, 0, 99, 4)), 1, "cell 11 0 0", "cell 11 0 1");
        taken("ground", m -> as(m.ground(2, 2, 0, 0)), 1, "cell 2 2 0", "cell 2 2 1");
        taken("ground as it is", m -> as(m.ground(2, 2, 44, 2)), 1);
        DUE.sentence("`boolean air(int x, int y, int cold, int water)`: COLD and WATER of a CELL: true;"
            + " false: no such ones.");
        bounds("air", (m, a) -> as(m.air(a[0], a[1], a[2], a[3])), 0,
            row(2, 2, 5, 5), row(0, 0, 0, 0), row(11, 11, 9999, 9999));
        taken("air", m -> as(m.air(0, 11, 9999, 9999)), 1, "cell 0 11 2", "cell 0 11 3");
        // The cold on the tape is no longer that of the row.
        taken("air", m -> as(m.air(9, 3, 0, 0)), 1, "cell 9 3 2", "cell 9 3 3", "tape");
        DUE.sentence("`boolean wind(int step, int n)`: A WIND: true; false: no such ones.");
        bounds("wind", (m, a) -> as(m.wind(a[0], a[1])), 0, row(5, 5), row(0, 0), row(99, 9));
        taken("wind", m -> as(m.wind(99, 9)), 1, "wind 99");
        taken("wind to 0 again", m -> as(m.wind(50, 0)), 1, "wind 50");
        taken("wind of a step that has been", m -> as(m.wind(0, 9)), 1, "wind 0");
    }

    private static void promise5() {
        DUE.sentence("`int feed(int a, int b, int c, int d, int e)`: Twenty bytes come behind the tape, the highest"
            + " of each int first: how many it has; NONE if that would be more than 220.");
        MistHands m = new MistHands();
        for (int meal = 1; meal <= 11; meal++) {
            DUE.is("meal " + meal, m.feed(1, 2, 3, 4, 5), 20 * meal);
            DUE.is("bytes", m.count(2), 20 * meal);
        }
        DUE.is("240 would be more", m.feed(9, 9, 9, 9, 9), NONE);
        DUE.is("and changes nothing", m.count(2), 220);
        for (int x = 0; x < 12; x++) {
            m.air(x, 0, 1 + x % 5, 0);
        }
        DUE.is("nor the bytes", m.check(0, 12), NONE);
        DUE.is("empty, it begins anew", m.feed(0x6D37283D, 0, 0, 0, 0), 20);
        DUE.is("the highest of an int is first", m.law(4), -1003);
        Due.feed(m, "m7(1=1)");
        DUE.is("so a text comes in its order", m.law(7), 1);
        Due.feed(m, "m1(1=1);m2(1=1);m3(1");
        Due.feed(m, "=1)");
        DUE.is("a second twenty comes behind the first", m.law(23), 3);
        m.air(0, 0, 0x0102, 0);
        m.feed(0x0102, -1, Integer.MIN_VALUE, 0, 0);
        DUE.is("bytes above 127", m.check(0, 3), 1);
        taken("feed", s -> s.feed(0, 0, 0, 0, 0), 60, "count 2", "kept count 2");
        MistHands full = new MistHands();
        String longest = "m" + "1+".repeat(96) + "01(x=1)";
        Due.feed(full, longest + " ");
        DUE.is("full", full.count(2), 220);
        DUE.is("no room", full.feed(0x20202020, 0, 0, 0, 0), NONE);
        DUE.is("all bytes are as they were", full.law(200), 1);
    }

    private static void promise6() {
        DUE.sentence("`int law(int n)`: THE LAW by the first n bytes of the tape (1 to 200; empty then), in place of"
            + " the one before: how many CLAUSES;");
        MistHands m = new MistHands();
        Due.feed(m, "m1(1=1);m2(1=1);m3(1=1);c1(1=1)");
        DUE.is("the first 15 bytes", m.law(15), 2);
        DUE.is("empty then, all of it", m.count(2), 0);
        DUE.is("clauses", m.count(1), 2);
        DUE.is("in place of the one before", Due.law(m, "y5(1=1)"), 1);
        DUE.is("clauses", m.count(1), 1);
        DUE.is("of which nothing is left", m.cell(0, 0, 4), 0);
        DUE.is("this one holds", m.cell(0, 0, 6), 5);
        taken("law of 40 bytes", s -> s.check(0, 0) + Due.law(s, "m1(x=2);m1(x=3);m1(x=4)"), NONE + 3,
            "count 1", "count 2", "kept count 1", "kept count 2", "tape");
        String longest = "m" + "1+".repeat(96) + "07(x=1)";
        DUE.is("200 bytes", longest.length(), 200);
        DUE.is("200 bytes", Due.law(m, longest), 1);
        DUE.is("200 bytes", m.cell(1, 0, 4), 99);
        DUE.is("1 byte", Due.law(m, "m"), -1001);
        DUE.sentence("a FAULT: -1000 times its number, less its place (the TEXT before stays);");
        DUE.is("place 0", Due.law(m, "z1(1=1)"), -1000);
        DUE.is("the tape is empty", m.count(2), 0);
        DUE.is("the last byte of 200", Due.law(m, longest.substring(0, 199) + "="), -1000 - 199);
        DUE.is("the end of 200 bytes", Due.law(m, longest.substring(0, 199) + "&"), -1000 - 200);
        Due.feed(m, longest.substring(0, 199) + "&x=1)");
        DUE.is("the end of 200 bytes, though more stand there", m.law(200), -1000 - 200);
        DUE.is("number 2", Due.law(m, "m123456(1=1)"), -2006);
        DUE.is("number 4", Due.law(m, "m1(1=1);".repeat(14) + "m1(1=1)"), -4112);
        DUE.is("number 5", Due.law(m, "m[[[[[[[1]]]]]]](1=1)"), -5007);
        DUE.is("the text before stays", m.count(1), 1);
        DUE.is("the text before stays", m.cell(1, 0, 4), 99);
        taken("a fault", s -> s.law(3), -1000, "count 2", "kept count 2", "tape");
        DUE.sentence("NONE: no such n, it has not so many (the tape stays).");
        still("law(0)", s -> s.law(0), NONE);
        still("law(-1)", s -> s.law(-1), NONE);
        still("law of one more than it has", s -> s.law(41), NONE);
        still("law(201)", s -> s.law(201), NONE);
        still("law(200) of 40", s -> s.law(200), NONE);
        still("law, far", s -> s.law(Integer.MAX_VALUE), NONE);
        still("law, far", s -> s.law(Integer.MIN_VALUE), NONE);
        DUE.is("as many as it has", Scene.answer(s -> s.law(40)), -1000);
        MistHands full = new MistHands();
        for (int meal = 0; meal < 11; meal++) {
            full.feed(0x6d312878, 0x3d31293b, 0, 0, 0);
        }
        DUE.is("201 of 220", full.law(201), NONE);
        DUE.is("220 of 220", full.law(220), NONE);
        DUE.is("the tape stays", full.count(2), 220);
        DUE.is("200 of 220", full.law(200), -1008);
        DUE.is("an empty tape", full.law(1), NONE);
    }

    private static void promise7() {
        DUE.sentence("`int steps(int n)`: STEPS (1 to 60): how much RAN in them; NONE: no such n.");
        bounds("steps", (m, a) -> m.steps(a[0]), NONE, row(2), row(1), row(60));
        MistHands m = new MistHands();
        m.ground(0, 0, 50, 0);
        m.air(0, 0, 100, 0);
        DUE.is("ran in the first", m.steps(1), 25);
        DUE.is("in the second, not in both", m.steps(1), 19 + 7);
        DUE.is("so far", m.sums(2), 25 + 19 + 7);
        MistHands twice = new MistHands();
        twice.ground(0, 0, 50, 0);
        twice.air(0, 0, 100, 0);
        DUE.is("ran in both", twice.steps(2), 25 + 19 + 7);
        DUE.is("the longest", twice.steps(60) > 0, true);
        DUE.is("the step", twice.count(0), 62);
    }

    private static void promises8And9() {
        DUE.sentence("`int cell(int x, int y, int what)`: Of a CELL, what 0 GROUND, 1 SORT, 2 COLD, 3 WATER, 4 MIST,"
            + " 5 TOP (-2: no MIST), 6 yards, 7 LEVEL; NONE for others.");
        askingBounds("cell", (m, a) -> m.cell(a[0], a[1], a[2]), NONE, row(2, 2, 2), row(0, 0, 0), row(11, 11, 7));
        MistHands m = Due.under("m5(h=40);yd+x+900(1=1)");
        m.ground(3, 4, 40, 2);
        m.air(3, 4, 55, 6);
        int[] due = {40, 2, 55, 6, 5, 45, 908, 485};
        int[] without = {0, 0, 0, 0, 0, -2, 904, 0};
        for (int what = 0; what < 8; what++) {
            DUE.is("what " + what, m.cell(3, 4, what), due[what]);
            DUE.is("without mist, what " + what, m.cell(4, 3, what), without[what]);
        }
        DUE.sentence("`int sums(int what)`: 0 COLD of all CELLS, 1 WATER of all, 2 RAN so far, 3 CELLS with MIST,"
            + " 4 the highest TOP (0: no MIST); NONE for others.");
        askingBounds("sums", (s, a) -> s.sums(a[0]), NONE, row(2), row(0), row(4));
        m = new MistHands();
        for (int what = 0; what < 5; what++) {
            DUE.is("nothing, what " + what, m.sums(what), 0);
        }
        m.air(0, 0, 3, 9999);
        m.air(11, 11, 4, 1);
        m.ground(11, 11, 99, 0);
        DUE.is("cold from first to last", m.sums(0), 7);
        DUE.is("water from first to last", m.sums(1), 10000);
        DUE.is("no mist, though there is ground", m.sums(4), 0);
        Due.law(m, "m99(h=99);m1(x=0&y=0);m0(1=1)");
        DUE.is("the highest top of all", m.sums(4), 198);
        DUE.is("cells with mist", m.sums(3), 2);
        Due.law(m, "m1(x=0&y=0)");
        DUE.is("cells with mist, as it is now", m.sums(3), 1);
        Due.law(m, "m2(x<2&y=0)");
        DUE.is("the highest top, as it is now", m.sums(4), 2);
        m.steps(2);
        DUE.is("ran so far", m.sums(2), 1 + 1 + 1 + 1);
    }

    private static void promises10To12() {
        DUE.sentence("`int night(int n, int what)`: A NIGHT of n STEPS, what 0 HIGHEST, 1 its STEP, 2 the CELL of"
            + " FIRST, 3 its STEP (STEPS as THE STEP counts), 4 STEPS at which some CELL has MIST; -2 for 0 to 3:"
            + " no MIST; NONE: no such ones.");
        askingBounds("night", (m, a) -> m.night(a[0], a[1]), NONE, row(3, 0), row(1, 0), row(60, 4));
        MistHands m = Due.under("m9(x=5&y=2&t=12);m4(x=7&t>10)");
        m.steps(8);
        int[] due = {9, 12, 7, 11, 7};
        for (int what = 0; what < 5; what++) {
            DUE.is("no mist, what " + what, m.night(2, what), what == 4 ? 0 : -2);
            DUE.is("as the step counts, what " + what, m.night(9, what), due[what]);
        }
        DUE.sentence("`int sun(int x, int y, int height, int n)`: SUN: STEPS; NONE: no such ones.");
        askingBounds("sun", (s, a) -> s.sun(a[0], a[1], a[2], a[3]), NONE,
            row(2, 2, 60, 3), row(0, 0, 44, 1), row(11, 11, 198, 60));
        DUE.is("no law: all of them", new MistHands().sun(0, 0, 0, 60), 60);
        DUE.sentence("`int band(int n, int f)`: THE BAND; -2: there is none; NONE: no such ones.");
        askingBounds("band", (s, a) -> s.band(a[0], a[1]), NONE, row(3, 5), row(1, 1), row(60, 9999));
        m = Due.under("c8(h=99)");
        DUE.is("no such height, no cold", m.band(60, 1), 0);
        m.ground(3, 3, 99, 0);
        DUE.is("there is none", m.band(2, 1), -2);
    }

    private static void promises13And14() {
        DUE.sentence("`int works(int x, int y, int n, int what)`: WORKS of a CELL in n STEPS, what 0 CELLS with more"
            + " COLD, 1 with less, 2 which gains most (-2: none does), 3 how much (0); NONE: no such ones,"
            + " it has trees.");
        askingBounds("works", (m, a) -> m.works(a[0], a[1], a[2], a[3]), NONE,
            row(2, 3, 3, 0), row(0, 0, 1, 0), row(11, 11, 60, 3));
        for (int what = 0; what < 4; what++) {
            int asked = what;
            still("works where trees are, " + what, m -> m.works(2, 2, 3, asked), NONE);
            DUE.is("nothing is moved, " + what, new MistHands().works(5, 5, 9, what), what == 2 ? -2 : 0);
        }
        MistHands m = new MistHands();
        for (int sort = 0; sort < 5; sort++) {
            m.ground(4, 4, 0, sort);
            DUE.is("sort " + sort, m.works(4, 4, 1, 0), sort == 2 ? NONE : 0);
        }
        DUE.sentence("`int dam(int cell, int n, int what)`: A DAM for a CELL in n STEPS (1 to 20), what 0 the CELL,"
            + " 1 how much COLD the told one has then; NONE: no such ones.");
        askingBounds("dam", (s, a) -> s.dam(a[0], a[1], a[2]), NONE, row(30, 2, 0), row(0, 1, 0), row(143, 20, 1));
    }

    private static void promises15To17() {
        DUE.sentence("`boolean road(int i, int a, int b, int length, int cell)`: A ROAD (in place of the one before):"
            + " true; false: no such ones, one NODE twice.");
        bounds("road", (m, a) -> as(m.road(a[0], a[1], a[2], a[3], a[4])), 0,
            row(5, 4, 6, 7, 8), row(0, 0, 0, 1, 0), row(19, 9, 9, 99, 143));
        for (int node = 0; node < 10; node++) {
            int twice = node;
            still("node " + node + " twice", m -> as(m.road(5, twice, twice, 7, 8)), 0);
        }
        still("in place of one, node twice", m -> as(m.road(0, 3, 3, 7, 8)), 0);
        taken("a new one", m -> as(m.road(1, 5, 4, 7, 8)), 1, "count 4", "kept count 4");
        taken("in place of one", m -> as(m.road(0, 5, 4, 7, 8)), 1);
        MistHands m = Due.under("y100(x=1)");
        m.road(0, 0, 1, 5, 1);
        DUE.is("there", m.soonest(0, 1, 0, 0), 5);
        m.road(0, 2, 3, 6, 1);
        DUE.is("the one before is gone", m.soonest(0, 1, 0, 0), -2);
        DUE.is("this one is in its place", m.soonest(3, 2, 0, 0), 6);
        m.road(0, 2, 3, 6, 2);
        DUE.is("over another cell", m.soonest(3, 2, 0, 0), -2);
        DUE.is("still one", m.count(4), 1);
        DUE.sentence("`int soonest(int from, int to, int minute, int what)`: SOONEST, what 0 with, 1 without waiting;"
            + " -2: not by 300; NONE: no such ones (a MINUTE 0 to 299).");
        askingBounds("soonest", (s, a) -> s.soonest(a[0], a[1], a[2], a[3]), NONE,
            row(0, 9, 4, 0), row(0, 0, 0, 0), row(9, 9, 299, 1));
        DUE.is("no road", new MistHands().soonest(0, 9, 0, 0), -2);
        DUE.is("no road", new MistHands().soonest(0, 9, 0, 1), -2);
        DUE.sentence("`int edge(int what)`: AN EDGE, what 0 the first, 1 the second ROAD, 2 by how many yards;"
            + " -2: there are none; NONE: no such what.");
        askingBounds("edge", (s, a) -> s.edge(a[0]), NONE, row(1), row(0), row(2));
        m = new MistHands();
        for (int what = 0; what < 3; what++) {
            DUE.is("no roads, what " + what, m.edge(what), -2);
        }
        DUE.is("no such what, though there are none", m.edge(3), NONE);
        m.road(4, 0, 1, 1, 1);
        for (int what = 0; what < 3; what++) {
            DUE.is("one road alone, what " + what, m.edge(what), -2);
        }
        m.road(5, 1, 2, 1, 1);
        int[] due = {4, 5, 0};
        for (int what = 0; what < 3; what++) {
            DUE.is("two alike, what " + what, m.edge(what), due[what]);
        }
    }

    private static void promise18() {
        DUE.sentence("`int was(int i, int j, int l, int top, int till)`: A NIGHT that was: how many there are; NONE:"
            + " no such ones, 60 are.");
        bounds("was", (m, a) -> m.was(a[0], a[1], a[2], a[3], a[4]), NONE,
            row(1, 1, 1, 1, 1), row(0, 0, 0, 0, 0), row(99, 99, 99, 99, 999));
        taken("was", m -> m.was(99, 99, 99, 99, 999), 5, "count 3", "kept count 3");
        MistHands m = new MistHands();
        for (int night = 1; night <= 60; night++) {
            DUE.is("night " + night, m.was(50, 50, 50, 0, 0), night);
        }
        DUE.is("60 are", m.was(50, 50, 50, 99, 999), NONE);
        DUE.is("60 are", m.count(3), 60);
        DUE.is("the 61st is not one of them", m.odds(50, 50, 50, 0, 0), 0);
        DUE.is("the 61st is not one of them", m.line(0, 1, 1, 0), 0);
    }

    private static void promises19To21() {
        DUE.sentence("`int line(int number, int missed, int said, int what)`: A LINE for number 0, 1, 2, PRICES (0 to"
            + " 999) of a night not said, of one said without MIST, what 0 the cost, 1 the LINE; NONE:"
            + " no such ones.");
        askingBounds("line", (m, a) -> m.line(a[0], a[1], a[2], a[3]), NONE,
            row(0, 5, 5, 0), row(0, 0, 0, 0), row(2, 999, 999, 1));
        DUE.is("missed is for a night not said", Scene.answer(m -> m.line(1, 100, 1, 0)), 1);
        DUE.is("said is for one without mist", Scene.answer(m -> m.line(1, 1, 100, 0)), 2);
        DUE.is("no nights", new MistHands().line(2, 999, 999, 0), 0);
        DUE.is("no nights", new MistHands().line(2, 999, 999, 1), 0);
        DUE.sentence("`int tells(int missed, int said)`: TELLS most (PRICES as above); NONE: no such ones.");
        askingBounds("tells", (m, a) -> m.tells(a[0], a[1]), NONE, row(5, 5), row(0, 0), row(999, 999));
        DUE.is("no nights", new MistHands().tells(999, 999), 0);
        DUE.sentence("`int held(int missed, int said)`: HELD (PRICES as above); NONE: no such ones.");
        askingBounds("held", (m, a) -> m.held(a[0], a[1]), NONE, row(5, 5), row(0, 0), row(999, 999));
        // The law says mist if i is above j: all four, two of them without mist.
        DUE.is("said without mist", Scene.answer(m -> m.held(100, 7)), 14);
        DUE.is("no nights", new MistHands().held(999, 999), 0);
    }

    private static void promises22To24() {
        DUE.sentence("`int odds(int i, int j, int l, int width, int what)`: ALIKE to i, j, l by a width, what 0 ODDS"
            + " above, 1 below the line, without a common divisor, 2 the highest TOP; -2: none is; NONE:"
            + " no such ones.");
        askingBounds("odds", (m, a) -> m.odds(a[0], a[1], a[2], a[3], a[4]), NONE,
            row(60, 10, 5, 12, 0), row(0, 0, 0, 0, 0), row(99, 99, 99, 99, 2));
        for (int what = 0; what < 3; what++) {
            int asked = what;
            still("none is, what " + what, m -> m.odds(0, 99, 99, 5, asked), -2);
            DUE.is("no nights, what " + what, new MistHands().odds(50, 50, 50, 99, what), -2);
        }
        DUE.sentence("`int when(int early, int late, int what)`: WHEN by PRICES (0 to 99) of a minute too early, too"
            + " late, what 0 the minute, 1 the cost; NONE: no such ones.");
        askingBounds("when", (m, a) -> m.when(a[0], a[1], a[2]), NONE, row(5, 5, 0), row(0, 0, 0), row(99, 99, 1));
        MistHands m = new MistHands();
        m.was(0, 0, 0, 0, 500);
        DUE.is("no night with mist", m.when(9, 9, 0), 0);
        DUE.is("no night with mist", m.when(9, 9, 1), 0);
        m.was(0, 0, 0, 1, 10);
        m.was(0, 0, 0, 1, 20);
        DUE.is("too early costs 1, too late 2", m.when(1, 2, 0), 10);
        DUE.is("too early costs 2, too late 1", m.when(2, 1, 0), 20);
        DUE.is("ten minutes at 1", m.when(2, 1, 1), 10);
        DUE.sentence("`long lid(int strength, int n, int k, int what)`: A LID of a strength, n STEPS, pushes 0 to k,"
            + " what 0 ODDS above, 1 below the line, without a common divisor; -1: no such ones.");
        askingBounds("lid", (s, a) -> s.lid(a[0], a[1], a[2], a[3]), -1,
            row(5, 2, 3, 0), row(1, 1, 1, 0), row(200, 12, 9, 1));
    }

    private static void promises25And26() {
        DUE.sentence("`boolean seed(int x)`: THE SEED (0 to 65535; X, too): true; false: no such number.");
        bounds("seed", (m, a) -> as(m.seed(a[0])), 0, row(5), row(0), row(65535));
        taken("seed", m -> as(m.seed(0)), 1, "count 5");
        taken("seed", m -> as(m.seed(65535)), 1, "count 5");
        MistHands m = new MistHands();
        for (int x : new int[] {0, 1, 32768, 65535}) {
            m.seed(x);
            DUE.is("X", m.count(5), x);
        }
        DUE.sentence("`int draw(int n)`: DRAWN: how much RAN; NONE: no such n.");
        bounds("draw", (s, a) -> s.draw(a[0]), NONE, row(2), row(1), row(60));
        m = new MistHands();
        m.ground(0, 0, 50, 0);
        m.air(0, 0, 100, 0);
        DUE.is("ran in the first", m.draw(1), 25);
        DUE.is("ran in the second, not in both", m.draw(1), 19 + 7);
        DUE.is("so far", m.sums(2), 25 + 19 + 7);
        DUE.is("the longest", m.draw(60) > 0, true);
        DUE.is("the step", m.count(0), 62);
    }

    private static void promises27And28() {
        DUE.sentence("`int keep()`: KEPT: THE STEP.");
        DUE.is("at first", new MistHands().keep(), 0);
        DUE.is("the step", Scene.answer(m -> m.keep()), 5);
        for (String name : Scene.changed(m -> m.keep())) {
            DUE.is("keep changes " + name, name.startsWith("kept "), true);
        }
        DUE.is("what is kept is now", Scene.changed(m -> m.keep()).contains("kept count 0"), true);
        DUE.sentence("`boolean undo()`: UNDONE: true; false: none was KEPT.");
        MistHands m = new MistHands();
        m.ground(1, 1, 9, 1);
        m.steps(4);
        DUE.is("none was kept", m.undo(), false);
        DUE.is("nothing is changed", m.cell(1, 1, 0), 9);
        DUE.is("nothing is changed", m.count(0), 4);
        m.keep();
        m.steps(1);
        DUE.is("undone", m.undo(), true);
        DUE.is("undone", m.count(0), 4);
        DUE.is("undone at once again", m.undo(), true);
        m.steps(9);
        DUE.is("it stays kept", m.undo(), true);
        DUE.is("it stays kept", m.count(0), 4);
    }

    private static void promise29() {
        DUE.sentence("`int check(int y, int n)`: CHECK of a row by the first n numbers of the tape (0 to 12; four bytes"
            + " each; empty then): NONE: right; else the place of the first number that is not so;");
        for (int n = 0; n <= 10; n++) {
            int asked = n;
            taken("right, " + n, m -> m.check(3, asked), NONE, "count 2", "kept count 2", "tape");
        }
        for (int wrong = 0; wrong < 10; wrong++) {
            int place = wrong;
            taken("place " + wrong, m -> m.air(place, 3, 9999, place) ? m.check(3, 10) : NONE, place,
                "cell " + place + " 3 2", "count 2", "kept count 2", "tape");
            DUE.is("not so far", Scene.answer(m -> m.air(place, 3, 9999, 0) ? m.check(3, place) : place), NONE);
        }
        MistHands twelve = row12();
        DUE.is("all twelve", twelve.check(7, 12), NONE);
        DUE.is("empty then", twelve.count(2), 0);
        twelve = row12();
        twelve.air(11, 7, 0, 0);
        DUE.is("place 11", twelve.check(7, 12), 11);
        for (int shift = 0; shift < 32; shift += 8) {
            MistHands m = new MistHands();
            m.air(0, 0, 17, 0);
            m.feed(17 ^ 1 << shift, 0, 0, 0, 0);
            DUE.is("each of the four bytes counts, " + shift, m.check(0, 1), 0);
        }
        DUE.sentence("-2: no such ones, it has not so many (the tape stays).");
        bounds("check", (m, a) -> m.check(a[0], a[1]), -2, row(3, 5), row(0, 0), row(11, 10));
        MistHands m = row12();
        DUE.is("13 of 15", m.check(7, 13), -2);
        DUE.is("the tape stays", m.count(2), 60);
        DUE.is("the tape stays", m.check(7, 12), NONE);
        DUE.is("one of none", m.check(7, 1), -2);
        DUE.is("none of none", m.check(7, 0), NONE);
        DUE.is("none of a row that there isn't", m.check(12, 0), -2);
    }

    /** Row 7 and the tape have the same twelve numbers; three more stand behind. */
    private static MistHands row12() {
        MistHands m = new MistHands();
        for (int x = 0; x < 12; x++) {
            m.air(x, 7, 300 * x + 9, 1);
        }
        m.feed(9, 309, 609, 909, 1209);
        m.feed(1509, 1809, 2109, 2409, 2709);
        m.feed(3009, 3309, 1, 2, 3);
        return m;
    }

    private static void promise30() {
        DUE.sentence("`int count(int what)`: 0 THE STEP, 1 CLAUSES, 2 bytes of the tape, 3 NIGHTS that were, 4 told"
            + " ROADS (bits), 5 X; 100 + s the WIND of STEP s. NONE for others.");
        askingBounds("count", (m, a) -> m.count(a[0]), NONE, row(0), row(0), row(5), row(100));
        int[] due = {5, 6, 40, 4, 1 << 0 | 1 << 3 | 1 << 7 | 1 << 19};
        for (int what = 0; what < 5; what++) {
            int asked = what;
            DUE.is("what " + what, Scene.answer(m -> m.count(asked)), due[what]);
        }
        MistHands m = new MistHands();
        m.seed(65535);
        DUE.is("X", m.count(5), 65535);
        for (int step = 0; step < 100; step++) {
            m.wind(step, step % 10);
        }
        for (int step = 0; step < 100; step++) {
            DUE.is("wind " + step, m.count(100 + step), step % 10);
        }
        DUE.is("of later ones 0", m.count(200), 0);
        DUE.is("of later ones 0", m.count(Integer.MAX_VALUE), 0);
        for (int road = 0; road < 20; road++) {
            m.road(road, 0, 1, 1, 1);
            DUE.is("roads up to " + road, m.count(4), (1 << road + 1) - 1);
        }
    }

    /** Whats that end at the first bound; from winds on there are others again. */
    private static void askingBounds(String name, Call call, long refusal, int[] good, int[] low, int[] high,
            int[] winds) {
        for (int beyond : new int[] {low[0] - 1, high[0] + 1, 50, winds[0] - 1, Integer.MIN_VALUE}) {
            still(name + beyond, m -> call.on(m, row(beyond)), refusal);
        }
        for (int last : new int[] {low[0], high[0], winds[0], winds[0] + 99}) {
            DUE.is(name + last + " is refused", Scene.answer(m -> call.on(m, row(last))) == refusal, false);
            unchanged(name + last, m -> call.on(m, row(last)));
        }
        unchanged(name + Arrays.toString(good), m -> call.on(m, good));
    }
}

import java.util.ArrayList;
import java.util.LinkedHashMap;
import java.util.List;
import java.util.Map;
import java.util.TreeSet;

/**
 * A valley in which all has been told, and all that can be asked of it: so that a test sees what a call changes.
 * The questions come in heaps, each asked of an object of its own, since an object stands for 512 calls only.
 */
final class Scene {
    /** What is done to a scene; its answer, a boolean's as 1 or 0. */
    interface Deed {
        long on(MistHands m);
    }

    static final String LAW = "c3(k=1);w2+v(t<9);s1(x=3);mc/9+n(c>9);y600-d*9-t(!x=5);f1(i>j)";

    /** The row whose cold stands on the tape. */
    private static final int ROW = 3;
    private static final int ON_TAPE = 10;
    private static final int HALF = 72;

    private Scene() { }

    static MistHands made() {
        MistHands m = new MistHands();
        for (int i = 0; i < 12; i++) {
            m.ground(i, 5 * i % 12, 7 * i + 1, i % 5);
            m.air(i, 7 * i % 12, 37 * i + 5, 11 * i + 2);
            m.wind(8 * i, i % 10);
        }
        Due.law(m, LAW);
        m.road(0, 0, 1, 3, 4);
        m.road(3, 1, 2, 9, 50);
        m.road(7, 2, 3, 20, 51);
        m.road(19, 9, 0, 1, 143);
        m.was(60, 10, 5, 20, 300);
        m.was(70, 20, 5, 30, 400);
        m.was(40, 30, 9, 0, 0);
        m.was(65, 5, 5, 0, 7);
        m.seed(4711);
        m.draw(3);
        m.keep();
        m.ground(2, 2, 44, 2);
        m.wind(50, 5);
        m.draw(2);
        int[] row = new int[ON_TAPE];
        for (int x = 0; x < ON_TAPE; x++) {
            row[x] = 100 * x + 37;
            m.air(x, ROW, row[x], x);
        }
        m.feed(row[0], row[1], row[2], row[3], row[4]);
        m.feed(row[5], row[6], row[7], row[8], row[9]);
        return m;
    }

    /** What a deed answers here. */
    static long answer(Deed deed) {
        return deed.on(made());
    }

    /** The names of all answers that are others behind the deed than without it. */
    static TreeSet<String> changed(Deed deed) {
        Map<String, Long> with = told(deed);
        TreeSet<String> names = new TreeSet<>();
        for (Map.Entry<String, Long> without : told(m -> 0).entrySet()) {
            if (!without.getValue().equals(with.get(without.getKey()))) {
                names.add(without.getKey());
            }
        }
        return names;
    }

    /** Only what is held itself, not what follows from it by the law or in a night. */
    static List<String> changedItself(Deed deed) {
        List<String> names = new ArrayList<>();
        for (String name : changed(deed)) {
            if (!name.startsWith("~")) {
                names.add(name);
            }
        }
        return names;
    }

    private static Map<String, Long> told(Deed deed) {
        Map<String, Long> all = new LinkedHashMap<>();
        cells(behind(deed, false), 0, "", all);
        cells(behind(deed, false), HALF, "", all);
        rest(behind(deed, false), "", all);
        follows(behind(deed, false), all);
        MistHands m = behind(deed, false);
        all.put("tape", (long) m.check(ROW, ON_TAPE));
        cells(behind(deed, true), 0, "kept ", all);
        cells(behind(deed, true), HALF, "kept ", all);
        rest(behind(deed, true), "kept ", all);
        return all;
    }

    private static MistHands behind(Deed deed, boolean isUndone) {
        MistHands m = made();
        deed.on(m);
        if (isUndone) {
            m.undo();
        }
        return m;
    }

    private static void cells(MistHands m, int from, String when, Map<String, Long> all) {
        for (int cell = from; cell < from + HALF; cell++) {
            for (int what = 0; what < 4; what++) {
                String name = when + "cell " + cell % 12 + " " + cell / 12 + " " + what;
                all.put(name, (long) m.cell(cell % 12, cell / 12, what));
            }
        }
    }

    private static void rest(MistHands m, String when, Map<String, Long> all) {
        for (int step = 0; step < 100; step++) {
            all.put(when + "wind " + step, (long) m.count(100 + step));
        }
        for (int what = 0; what < 6; what++) {
            all.put(when + "count " + what, (long) m.count(what));
        }
        all.put(when + "ran", (long) m.sums(2));
    }

    private static void follows(MistHands m, Map<String, Long> all) {
        for (int cell = 0; cell < 144; cell += 11) {
            for (int what = 4; what < 8; what++) {
                all.put("~cell " + cell + " " + what, (long) m.cell(cell % 12, cell / 12, what));
            }
        }
        for (int what = 0; what < 5; what++) {
            all.put("~sums " + what, (long) m.sums(what));
            all.put("~night " + what, (long) m.night(9, what));
        }
        for (int from = 0; from < 4; from++) {
            all.put("~soonest " + from, (long) m.soonest(from, 9, 4, 0));
            all.put("~at once " + from, (long) m.soonest(from, 9, 4, 1));
        }
        for (int what = 0; what < 3; what++) {
            all.put("~edge " + what, (long) m.edge(what));
            all.put("~line " + what, (long) m.line(what, 7, 5, 1));
            all.put("~cost " + what, (long) m.line(what, 7, 5, 0));
            all.put("~odds " + what, (long) m.odds(60, 15, 5, 12, what));
            all.put("~all odds " + what, (long) m.odds(50, 50, 50, 60, what));
        }
        all.put("~tells", (long) m.tells(3, 9));
        all.put("~held", (long) m.held(100, 1));
        all.put("~when", (long) m.when(3, 2, 0));
        all.put("~when's cost", (long) m.when(3, 2, 1));
        all.put("~clauses", (long) m.count(1));
    }
}

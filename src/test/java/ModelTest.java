import java.util.Random;

/** Runs of calls by chance (always the same ones), asked of the class and of PlainModel alike. */
public final class ModelTest {
    private static final int RUNS = 260;
    private static final int CALLS = 200;
    /** An object stands for 512 calls; one turn takes thirty at most. */
    private static final int MOST_CALLS = 512 - 30;
    private static int wrong = 0;

    private final Random random;
    private final LawWriter writer;
    private final MistHands hands = new MistHands();
    private int calls = 0;
    private final PlainModel model = new PlainModel();
    private final StringBuilder told = new StringBuilder();

    /** The object, for one call more. */
    private MistHands asked() {
        calls++;
        return hands;
    }

    private ModelTest(long seed) {
        random = new Random(seed);
        writer = new LawWriter(random);
    }

    public static void main(String[] args) {
        for (int run = 0; run < RUNS && wrong < 10; run++) {
            new ModelTest(run).run(run);
        }
        for (int run = 0; run < 400 && wrong < 10; run++) {
            new ModelTest(1000 + run).runLaws();
        }
        System.out.println(wrong == 0 ? "class and model agree" : wrong + " runs where class and model differ");
        if (wrong != 0) {
            System.exit(1);
        }
    }

    private void run(int run) {
        if (run % 4 != 3) {
            landscape();
        }
        if (run % 5 == 0) {
            pastNights();
        }
        if (run % 3 == 0) {
            network();
        }
        tell(writer.writeGood());
        for (int call = 0; call < CALLS && calls < MOST_CALLS; call++) {
            if (!same(random.nextInt(100))) {
                wrong++;
                System.out.println("run " + run + ":\n" + told);
                return;
            }
        }
    }

    /** Laws alone, most of them with a fault, and what a good one says. */
    private void runLaws() {
        for (int i = 0; i < 30 && calls < MOST_CALLS; i++) {
            String text = writer.write();
            told.append("law ").append(text).append('\n');
            feed(text);
            if (!equal("law", asked().law(text.length()), model.law(text.length()))
                    || !equal("count(1)", asked().count(1), model.count(1))
                    || !equal("mist", asked().cell(3, 4, 4), model.cell(3, 4, 4))
                    || !equal("yards", asked().cell(3, 4, 6), model.cell(3, 4, 6))) {
                wrong++;
                System.out.println(told);
                return;
            }
            asked().air(3, 4, i * 9, i);
            model.air(3, 4, i * 9, i);
        }
    }

    private void landscape() {
        for (int cell = 0; cell < 144; cell++) {
            int x = cell % 12;
            int y = cell / 12;
            int ground = Math.min(99, Math.abs(x - 6) * random.nextInt(6) + y + random.nextInt(4));
            int sort = random.nextInt(3) == 0 ? random.nextInt(5) : 0;
            asked().ground(x, y, ground, sort);
            model.ground(x, y, ground, sort);
            if (random.nextInt(3) == 0) {
                int cold = random.nextInt(4) == 0 ? 9999 - random.nextInt(200) : random.nextInt(120);
                int water = random.nextInt(6) == 0 ? 9999 - random.nextInt(20) : random.nextInt(40);
                asked().air(x, y, cold, water);
                model.air(x, y, cold, water);
            }
        }
        for (int step = random.nextInt(4); step < 100; step += 4) {
            int n = random.nextInt(10);
            asked().wind(step, n);
            model.wind(step, n);
        }
    }

    private void network() {
        for (int i = 0; i < 18; i++) {
            int a = random.nextInt(10);
            int b = (a + 1 + random.nextInt(3)) % 10;
            int length = 1 + random.nextInt(14);
            int cell = random.nextInt(144);
            asked().road(i, a, b, length, cell);
            model.road(i, a, b, length, cell);
        }
    }

    private void pastNights() {
        for (int night = 0; night < 50; night++) {
            int i = random.nextInt(100);
            int j = random.nextInt(100);
            int top = i + j / 2 + random.nextInt(60) > 110 ? 1 + random.nextInt(99) : 0;
            int till = random.nextInt(1000);
            asked().was(i, j, night, top, till);
            model.was(i, j, night, top, till);
        }
    }

    private void feed(String text) {
        for (int at = 0; at < text.length(); at += 20) {
            int[] five = new int[5];
            for (int i = 0; i < 20; i++) {
                int sign = at + i < text.length() ? text.charAt(at + i) : ' ';
                five[i / 4] = five[i / 4] << 8 | sign;
            }
            asked().feed(five[0], five[1], five[2], five[3], five[4]);
            model.feed(five);
        }
    }

    private void tell(String text) {
        told.append("law ").append(text).append('\n');
        // Behind a tape that is not empty the law would be another text.
        asked().check(0, 0);
        model.check(0, 0);
        feed(text);
        equal("law", asked().law(text.length()), model.law(text.length()));
    }

    private boolean equal(String call, long got, long due) {
        told.append(call).append(" -> ").append(got);
        if (got != due) {
            told.append(", the model says ").append(due).append(" <<<<");
        }
        told.append('\n');
        return got == due;
    }

    private boolean equal(String call, boolean got, boolean due) {
        return equal(call, got ? 1 : 0, due ? 1 : 0);
    }

    /** Mostly 0 to most, now and then a number beyond, on either side. */
    private int upTo(int most) {
        int kind = random.nextInt(60);
        if (kind == 0) {
            return -1;
        }
        if (kind == 1) {
            return most + 1;
        }
        if (kind == 2) {
            return random.nextBoolean() ? Integer.MAX_VALUE : Integer.MIN_VALUE;
        }
        return kind == 3 ? most : random.nextInt(most + 1);
    }

    private boolean same(int kind) {
        if (kind < 30) {
            return sameGround(kind);
        }
        if (kind < 52) {
            return sameNight(kind);
        }
        return kind < 70 ? sameRoads(kind) : sameRest(kind);
    }

    private boolean sameGround(int kind) {
        int x = upTo(11);
        int y = upTo(11);
        if (kind < 4) {
            int g = upTo(99);
            int s = upTo(4);
            return equal("ground " + x + " " + y + " " + g + " " + s, asked().ground(x, y, g, s), model.ground(x, y, g, s));
        }
        if (kind < 8) {
            int c = upTo(9999);
            int w = upTo(9999);
            return equal("air " + x + " " + y + " " + c + " " + w, asked().air(x, y, c, w), model.air(x, y, c, w));
        }
        if (kind < 10) {
            int s = upTo(99);
            int n = upTo(9);
            return equal("wind " + s + " " + n, asked().wind(s, n), model.wind(s, n));
        }
        if (kind < 14) {
            int n = random.nextInt(10) == 0 ? upTo(61) : upTo(5);
            return equal("steps " + n, asked().steps(n), model.steps(n));
        }
        if (kind < 22) {
            int what = upTo(7);
            return equal("cell " + x + " " + y + " " + what, asked().cell(x, y, what), model.cell(x, y, what));
        }
        if (kind < 27) {
            int what = upTo(4);
            return equal("sums " + what, asked().sums(what), model.sums(what));
        }
        if (kind == 27) {
            return sameLaw(writer.writeGood());
        }
        return kind == 28 ? sameLaw(writer.write()) : sameCheck(y);
    }

    private boolean sameLaw(String text) {
        feed(text);
        int n = random.nextInt(8) == 0 ? upTo(201) : text.length();
        return equal("feed " + text + " law " + n, asked().law(n), model.law(n))
            && equal("bytes", asked().count(2), model.count(2));
    }

    private boolean sameCheck(int y) {
        int[] row = new int[15];
        for (int i = 0; i < 15; i++) {
            row[i] = random.nextInt(12) == 0 ? random.nextInt() : asked().cell(i, y, 2);
        }
        for (int i = 0; i < 15; i += 5) {
            int got = asked().feed(row[i], row[i + 1], row[i + 2], row[i + 3], row[i + 4]);
            if (!equal("feed bytes", got, model.feed(row[i], row[i + 1], row[i + 2], row[i + 3], row[i + 4]))) {
                return false;
            }
        }
        int n = upTo(12);
        return random.nextInt(2) == 0 || equal("check " + y + " " + n, asked().check(y, n), model.check(y, n));
    }

    private boolean sameNight(int kind) {
        int n = random.nextInt(15) == 0 ? upTo(61) : 1 + upTo(6);
        int x = upTo(11);
        int y = upTo(11);
        if (kind < 38) {
            int what = upTo(4);
            return equal("night " + n + " " + what, asked().night(n, what), model.night(n, what));
        }
        if (kind < 43) {
            int height = random.nextInt(3) == 0 ? upTo(199) : Math.max(0, asked().cell(x, y, 0)) + upTo(25);
            return equal("sun " + x + " " + y + " " + height + " " + n,
                asked().sun(x, y, height, n), model.sun(x, y, height, n));
        }
        if (kind < 47) {
            int f = random.nextInt(2) == 0 ? upTo(9999) : upTo(200);
            return equal("band " + n + " " + f, asked().band(n, f), model.band(n, f));
        }
        if (kind < 51) {
            int what = upTo(3);
            return equal("works " + x + " " + y + " " + n + " " + what,
                asked().works(x, y, n, what), model.works(x, y, n, what));
        }
        int cell = upTo(143);
        int what = upTo(1);
        int steps = random.nextInt(5) == 0 ? random.nextInt(2) * 21 : 1 + random.nextInt(3);
        return random.nextInt(2) != 0 || equal("dam " + cell + " " + steps + " " + what,
            asked().dam(cell, steps, what), model.dam(cell, steps, what));
    }

    private boolean sameRoads(int kind) {
        if (kind < 58) {
            int i = upTo(19);
            int a = upTo(9);
            int b = random.nextInt(15) == 0 ? a : upTo(9);
            int length = random.nextInt(2) == 0 ? upTo(99) : upTo(20);
            int cell = upTo(143);
            return equal("road " + i + " " + a + " " + b + " " + length + " " + cell,
                asked().road(i, a, b, length, cell), model.road(i, a, b, length, cell));
        }
        if (kind < 66) {
            int from = upTo(9);
            int to = upTo(9);
            int minute = random.nextInt(3) == 0 ? upTo(299) : upTo(30);
            int what = upTo(1);
            return equal("soonest " + from + " " + to + " " + minute + " " + what,
                asked().soonest(from, to, minute, what), model.soonest(from, to, minute, what));
        }
        int what = upTo(2);
        return equal("edge " + what, asked().edge(what), model.edge(what));
    }

    private boolean sameRest(int kind) {
        int i = upTo(99);
        int j = upTo(99);
        int l = upTo(99);
        if (kind < 79) {
            int top = random.nextInt(3) == 0 ? 0 : upTo(99);
            int till = upTo(999);
            return equal("was " + i + " " + j + " " + l + " " + top + " " + till,
                asked().was(i, j, l, top, till), model.was(i, j, l, top, till));
        }
        int missed = upTo(999);
        int said = upTo(999);
        if (kind < 82) {
            int number = upTo(2);
            int what = upTo(1);
            return equal("line " + number + " " + missed + " " + said + " " + what,
                asked().line(number, missed, said, what), model.line(number, missed, said, what));
        }
        if (kind < 84) {
            return equal("tells " + missed + " " + said, asked().tells(missed, said), model.tells(missed, said))
                && equal("held " + missed + " " + said, asked().held(missed, said), model.held(missed, said));
        }
        if (kind < 87) {
            int width = upTo(99);
            int what = upTo(2);
            return equal("odds " + i + " " + j + " " + l + " " + width + " " + what,
                asked().odds(i, j, l, width, what), model.odds(i, j, l, width, what));
        }
        if (kind < 89) {
            int what = upTo(1);
            return equal("when " + i + " " + j + " " + what, asked().when(i, j, what), model.when(i, j, what));
        }
        if (kind < 92) {
            int strength = upTo(random.nextBoolean() ? 200 : 60);
            int n = upTo(12);
            int k = upTo(9);
            int what = upTo(1);
            return equal("lid " + strength + " " + n + " " + k + " " + what,
                asked().lid(strength, n, k, what), model.lid(strength, n, k, what));
        }
        return sameState(kind);
    }

    private boolean sameState(int kind) {
        switch (kind) {
            case 92: {
                int x = upTo(65535);
                return equal("seed " + x, asked().seed(x), model.seed(x));
            }
            case 93:
            case 94: {
                int n = random.nextInt(6) == 0 ? upTo(61) : upTo(6);
                return equal("draw " + n, asked().draw(n), model.draw(n));
            }
            case 95:
                return random.nextInt(2) == 0 || equal("keep", asked().keep(), model.keep());
            case 96:
                return equal("undo", asked().undo(), model.undo());
            default: {
                int what = random.nextBoolean() ? upTo(5) : upTo(204);
                return equal("count " + what, asked().count(what), model.count(what));
            }
        }
    }
}

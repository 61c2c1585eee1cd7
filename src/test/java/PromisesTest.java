/** Each promise by answers reckoned by hand: ordinary inputs, the edges, and wrong inputs. */
public final class PromisesTest {
    private static final Due DUE = new Due("promises");
    private static final int NONE = MistHands.NONE;
    private static final int[] BEYOND = {-1, Integer.MIN_VALUE, Integer.MAX_VALUE};

    public static void main(String[] args) {
        promise1();
        promise2();
        promise3();
        promise4();
        promise5();
        promise6();
        promise7Runs();
        promise7Holds();
        promise7Law();
        promise8();
        promise9();
        promise10();
        promise11();
        promise12();
        promise13();
        promise14();
        promise15();
        promise16();
        promise16Bounds();
        promise17();
        promise18();
        promise19();
        promise20();
        promise21();
        promise22();
        promise23();
        promise24();
        promise25And26();
        promise27And28();
        promise29();
        promise30();
        DUE.end();
    }

    private static void promise1() {
        MistHands m = new MistHands();
        for (int y = 0; y < 12; y += 3) {
            for (int x = 0; x < 12; x += 2) {
                for (int what = 0; what < 8; what++) {
                    DUE.is("1: new cell " + x + " " + y + " " + what, m.cell(x, y, what), what == 5 ? -2 : 0);
                }
            }
        }
        for (int what = 0; what < 5; what++) {
            DUE.is("1: new sums " + what, m.sums(what), 0);
            DUE.is("1: new count " + what, m.count(what), 0);
        }
        DUE.is("1: the seed", m.count(5), 1);
        DUE.is("1: no edge", m.edge(0), -2);
        DUE.is("1: none kept", m.undo(), false);
        for (int step = 0; step < 100; step++) {
            DUE.is("1: new wind " + step, m.count(100 + step), 0);
        }
        DUE.is("1: two objects", new MistHands().ground(1, 1, 5, 1), true);
        DUE.is("1: have nothing in common", m.cell(1, 1, 0), 0);
    }

    private static void promise2() {
        MistHands m = new MistHands();
        DUE.is("2: lowest", m.ground(0, 0, 99, 4), true);
        DUE.is("2: highest", m.ground(11, 11, 7, 2), true);
        DUE.is("2: ground", m.cell(0, 0, 0), 99);
        DUE.is("2: sort", m.cell(0, 0, 1), 4);
        DUE.is("2: ground", m.cell(11, 11, 0), 7);
        DUE.is("2: sort", m.cell(11, 11, 1), 2);
        DUE.is("2: x and y are not mixed", m.ground(3, 8, 5, 1), true);
        DUE.is("2: x and y are not mixed", m.cell(3, 8, 0), 5);
        DUE.is("2: x and y are not mixed", m.cell(8, 3, 0), 0);
        for (int beyond : BEYOND) {
            DUE.is("2: x", m.ground(beyond, 0, 1, 1), false);
            DUE.is("2: y", m.ground(0, beyond, 1, 1), false);
            DUE.is("2: hands", m.ground(0, 0, beyond, 1), false);
            DUE.is("2: sort", m.ground(0, 0, 1, beyond), false);
        }
        DUE.is("2: x 12", m.ground(12, 0, 1, 1), false);
        DUE.is("2: y 12", m.ground(0, 12, 1, 1), false);
        DUE.is("2: hands 100", m.ground(0, 0, 100, 1), false);
        DUE.is("2: sort 5", m.ground(0, 0, 1, 5), false);
        DUE.is("2: refused changes nothing", m.cell(0, 0, 0), 99);
        DUE.is("2: refused changes nothing", m.cell(0, 0, 1), 4);
        m.air(0, 0, 5, 6);
        m.ground(0, 0, 0, 0);
        DUE.is("2: to 0 again", m.cell(0, 0, 0), 0);
        DUE.is("2: the air stays", m.cell(0, 0, 2), 5);
    }

    private static void promise3() {
        MistHands m = new MistHands();
        DUE.is("3: highest", m.air(11, 0, 9999, 9999), true);
        DUE.is("3: cold", m.cell(11, 0, 2), 9999);
        DUE.is("3: water", m.cell(11, 0, 3), 9999);
        DUE.is("3: some", m.air(0, 11, 12, 34), true);
        DUE.is("3: cold", m.cell(0, 11, 2), 12);
        DUE.is("3: water", m.cell(0, 11, 3), 34);
        for (int beyond : BEYOND) {
            DUE.is("3: x", m.air(beyond, 0, 1, 1), false);
            DUE.is("3: y", m.air(0, beyond, 1, 1), false);
            DUE.is("3: cold", m.air(0, 11, beyond, 1), false);
            DUE.is("3: water", m.air(0, 11, 1, beyond), false);
        }
        DUE.is("3: x 12", m.air(12, 0, 1, 1), false);
        DUE.is("3: y 12", m.air(0, 12, 1, 1), false);
        DUE.is("3: cold 10000", m.air(0, 11, 10000, 1), false);
        DUE.is("3: water 10000", m.air(0, 11, 1, 10000), false);
        DUE.is("3: refused changes nothing", m.cell(0, 11, 2), 12);
        DUE.is("3: refused changes nothing", m.cell(0, 11, 3), 34);
        DUE.is("3: to 0 again", m.air(0, 11, 0, 0), true);
        DUE.is("3: to 0 again", m.cell(0, 11, 3), 0);
    }

    private static void promise4() {
        MistHands m = new MistHands();
        DUE.is("4: first", m.wind(0, 9), true);
        DUE.is("4: last", m.wind(99, 5), true);
        DUE.is("4: told", m.count(100), 9);
        DUE.is("4: told", m.count(199), 5);
        for (int beyond : BEYOND) {
            DUE.is("4: step", m.wind(beyond, 1), false);
            DUE.is("4: n", m.wind(0, beyond), false);
        }
        DUE.is("4: step 100", m.wind(100, 1), false);
        DUE.is("4: n 10", m.wind(0, 10), false);
        DUE.is("4: refused changes nothing", m.count(100), 9);
        Due.law(m, "mv(1=1)");
        DUE.is("4: the step's wind", m.cell(0, 0, 4), 9);
        m.steps(1);
        DUE.is("4: the next step's wind", m.cell(0, 0, 4), 0);
        m.steps(60);
        m.steps(38);
        DUE.is("4: step 99", m.count(0), 99);
        DUE.is("4: step 99", m.cell(0, 0, 4), 5);
        m.steps(1);
        DUE.is("4: later ones have 0", m.cell(0, 0, 4), 0);
    }

    private static void promise5() {
        MistHands m = new MistHands();
        for (int meal = 1; meal <= 11; meal++) {
            DUE.is("5: meal " + meal, m.feed(0, 0, 0, 0, meal), 20 * meal);
        }
        DUE.is("5: more than 220", m.feed(1, 1, 1, 1, 1), NONE);
        DUE.is("5: refused changes nothing", m.count(2), 220);
        DUE.is("5: empty", m.check(0, 0), NONE);
        DUE.is("5: empty", m.feed(0, 0, 0, 0, 0), 20);
        m.check(0, 0);
        // The highest byte comes first, and signs above 127 are no numbers below 0.
        m.air(0, 0, 0x1234, 0);
        m.feed(0x1234, -1, 0x80000000, 0, 0);
        DUE.is("5: the highest first", m.check(0, 1), NONE);
    }

    private static void promise6() {
        MistHands m = new MistHands();
        DUE.is("6: no tape", m.law(1), NONE);
        Due.feed(m, "m1(1=1);m2(1=1)xxxxx");
        DUE.is("6: n 0", m.law(0), NONE);
        DUE.is("6: n 21", m.law(21), NONE);
        DUE.is("6: the tape stays", m.count(2), 20);
        DUE.is("6: n first bytes", m.law(7), 1);
        DUE.is("6: the tape is empty", m.count(2), 0);
        DUE.is("6: clauses", m.count(1), 1);
        DUE.is("6: holds", m.cell(0, 0, 4), 1);
        Due.feed(m, "m1(1=1);m2(1=1)xxxxx");
        DUE.is("6: a fault", m.law(16), -1015);
        DUE.is("6: empties the tape", m.count(2), 0);
        DUE.is("6: the one before stays", m.count(1), 1);
        DUE.is("6: the one before stays", m.cell(0, 0, 4), 1);
        DUE.is("6: another", Due.law(m, "m5(x=1);m6(1=1);y7(1=1)"), 3);
        DUE.is("6: in place of the one before", m.cell(1, 0, 4), 5);
        DUE.is("6: in place of the one before", m.cell(2, 0, 4), 6);
        for (int meal = 0; meal < 11; meal++) {
            m.feed(0x6d312831, 0x3d312931, 0, 0, 0);
        }
        DUE.is("6: n 201", m.law(201), NONE);
        DUE.is("6: n below", m.law(-1), NONE);
        DUE.is("6: n far", m.law(Integer.MAX_VALUE), NONE);
        DUE.is("6: n far", m.law(Integer.MIN_VALUE), NONE);
        DUE.is("6: the tape stays", m.count(2), 220);
        DUE.is("6: n 200", m.law(200), -1007);
        String longest = "m" + "1+".repeat(96) + "01(x=1)";
        DUE.is("6: 200 signs", longest.length(), 200);
        DUE.is("6: 200 signs", Due.law(m, longest), 1);
        DUE.is("6: 200 signs", m.cell(1, 0, 4), 97);
    }

    private static void promise7Runs() {
        MistHands m = new MistHands();
        DUE.is("7: n 0", m.steps(0), NONE);
        DUE.is("7: n 61", m.steps(61), NONE);
        DUE.is("7: n below", m.steps(-1), NONE);
        DUE.is("7: n far", m.steps(Integer.MAX_VALUE), NONE);
        DUE.is("7: refused changes nothing", m.count(0), 0);
        DUE.is("7: nothing runs", m.steps(60), 0);
        DUE.is("7: the step", m.count(0), 60);
        m = new MistHands();
        m.ground(0, 0, 10, 0);
        m.air(0, 0, 37, 0);
        DUE.is("7: a quarter, rounded up", m.steps(1), 10);
        DUE.is("7: to the lowest number of like ones", m.cell(1, 0, 2), 10);
        DUE.is("7: not to the other one", m.cell(0, 1, 2), 0);
        m = new MistHands();
        m.air(0, 0, 9, 0);
        m.air(1, 0, 7, 0);
        m.air(0, 1, 6, 0);
        DUE.is("7: half the differing, rounded down", m.steps(1), 5);
        DUE.is("7: all at once", m.cell(0, 0, 2), 8);
        DUE.is("7: all at once", m.cell(1, 0, 2), 5);
        DUE.is("7: all at once", m.cell(2, 0, 2), 2);
        DUE.is("7: all at once", m.cell(0, 1, 2), 5);
        DUE.is("7: all at once", m.cell(1, 1, 2), 2);
        m = new MistHands();
        m.air(5, 5, 40, 0);
        m.ground(5, 4, 0, 2);
        DUE.is("7: trees stand 30 higher", m.steps(1), 10);
        DUE.is("7: past the trees", m.cell(4, 5, 2), 10);
        DUE.is("7: past the trees", m.cell(5, 4, 2), 0);
        m = new MistHands();
        m.air(0, 5, 8, 0);
        m.air(11, 4, 8, 0);
        m.air(0, 4, 50, 0);
        m.air(1, 5, 50, 0);
        m.air(0, 6, 50, 0);
        m.steps(1);
        DUE.is("7: no way round the side", m.cell(11, 4, 2), 6);
        m = new MistHands();
        for (int cell = 9; cell < 12; cell++) {
            m.ground(cell, 0, 9, 0);
            m.ground(cell, 1, 20, 0);
        }
        m.ground(11, 0, 0, 0);
        m.air(10, 0, 40, 0);
        m.steps(1);
        DUE.is("7: to the right side", m.cell(11, 0, 2), 10);
        m = new MistHands();
        m.air(6, 6, 1, 0);
        DUE.is("7: half of 1 is 0", m.steps(1), 0);
        m.ground(6, 6, 0, 2);
        DUE.is("7: from the trees down", m.steps(1), 1);
    }

    private static void promise7Holds() {
        MistHands m = new MistHands();
        m.air(0, 0, 9990, 0);
        for (int cell : new int[] {1, 2, 12, 13, 24}) {
            m.ground(cell % 12, cell / 12, 99, 0);
            m.air(cell % 12, cell / 12, 9999, 0);
        }
        // 2, 13 and 24 have low ones beside them: 2500 each; 1 and 12 have 0 as their lowest: 499 each.
        DUE.is("7: what is lost ran, too", m.steps(1), 3 * 2500 + 2 * 499);
        DUE.is("7: held to 9999", m.cell(0, 0, 2), 9999);
        DUE.is("7: given", m.cell(1, 0, 2), 9500);
        m = new MistHands();
        m.ground(0, 0, 99, 0);
        m.air(0, 0, 9999, 0);
        m.ground(0, 1, 99, 0);
        m.air(0, 1, 9999, 0);
        m.ground(1, 0, 50, 0);
        m.air(1, 0, 9999, 0);
        m.steps(1);
        DUE.is("7: gives and gets at once", m.cell(1, 0, 2), 9999 - 2500 + 245);
    }

    private static void promise7Law() {
        MistHands m = new MistHands();
        Due.law(m, "c7(c=0);c1(1=1);w50(y=0);w5(1=1);s30(1=1)");
        m.air(0, 0, 0, 9990);
        m.air(1, 0, 0, 9970);
        m.air(0, 1, 0, 20);
        m.steps(1);
        DUE.is("7: held to 9999", m.cell(0, 0, 3), 9999);
        DUE.is("7: more and less together", m.cell(1, 0, 3), 9990);
        DUE.is("7: held to 0", m.cell(0, 1, 3), 0);
        DUE.is("7: cold", m.sums(0), 144 * 7);
        m.steps(1);
        DUE.is("7: another clause", m.sums(0), 144 * 8);
        m = new MistHands();
        Due.law(m, "c99(1=1)");
        for (int cell = 0; cell < 144; cell++) {
            m.air(cell % 12, cell / 12, 9950, 0);
        }
        m.steps(1);
        DUE.is("7: cold is held to 9999", m.sums(0), 144 * 9999);
        m = new MistHands();
        // Had the cold come first, the water would be other than 3.
        Due.law(m, "c5(1=1);w3+c(1=1)");
        m.steps(1);
        DUE.is("7: as ahead of the step", m.cell(4, 4, 3), 3);
        m = new MistHands();
        Due.law(m, "w10*t+v(1=1);cn(1=1)");
        m.wind(1, 4);
        m.ground(3, 3, 0, 2);
        m.ground(3, 5, 0, 2);
        m.steps(1);
        DUE.is("7: step 0", m.cell(0, 0, 3), 0);
        DUE.is("7: trees beside", m.sums(0), 8);
        m.steps(1);
        DUE.is("7: step 1 and its wind", m.cell(0, 0, 3), 14);
    }

    private static void promise8() {
        MistHands m = new MistHands();
        m.ground(2, 3, 40, 2);
        m.air(2, 3, 55, 6);
        Due.law(m, "mw+n(h=40);y500-d*20-x(1=1)");
        m.ground(2, 2, 0, 2);
        int[] due = {40, 2, 55, 6, 7, 47, 358, 485};
        for (int what = 0; what < 8; what++) {
            DUE.is("8: " + what, m.cell(2, 3, what), due[what]);
        }
        DUE.is("8: no mist", m.cell(5, 5, 4), 0);
        DUE.is("8: no top", m.cell(5, 5, 5), -2);
        DUE.is("8: yards without mist", m.cell(5, 5, 6), 495);
        for (int beyond : BEYOND) {
            DUE.is("8: x", m.cell(beyond, 0, 0), NONE);
            DUE.is("8: y", m.cell(0, beyond, 0), NONE);
            DUE.is("8: what", m.cell(0, 0, beyond), NONE);
        }
        DUE.is("8: x 12", m.cell(12, 0, 0), NONE);
        DUE.is("8: y 12", m.cell(0, 12, 0), NONE);
        DUE.is("8: what 8", m.cell(0, 0, 8), NONE);
        Due.law(m, "m5000(1=1);y5000(d=99)");
        DUE.is("8: mist is 99 at most", m.cell(2, 3, 5), 139);
        DUE.is("8: yards are 999 at most", m.cell(2, 3, 6), 999);
        Due.law(m, "m1(1=1)");
        DUE.is("8: a top of 1", m.cell(0, 0, 5), 1);
        DUE.is("8: the highest of them", m.sums(4), 41);
        DUE.is("8: tops of 1", m.sums(3), 144);
        Due.law(m, "m0-5(1=1);y0-1(1=1)");
        DUE.is("8: no mist below 0", m.cell(2, 3, 5), -2);
        DUE.is("8: no yards below 0", m.cell(2, 3, 6), 0);
    }

    private static void promise9() {
        MistHands m = new MistHands();
        m.ground(11, 11, 20, 0);
        m.air(11, 11, 40, 3);
        m.air(0, 0, 2, 9999);
        DUE.is("9: cold", m.sums(0), 42);
        DUE.is("9: water", m.sums(1), 10002);
        DUE.is("9: nothing ran", m.sums(2), 0);
        DUE.is("9: no mist", m.sums(3), 0);
        DUE.is("9: no top", m.sums(4), 0);
        Due.law(m, "m2(h=20);m21(x=0&y<2)");
        DUE.is("9: cells with mist", m.sums(3), 3);
        DUE.is("9: the highest top", m.sums(4), 22);
        int first = m.steps(1);
        int second = m.steps(3);
        DUE.is("9: all that ran", m.sums(2), first + second);
        DUE.is("9: the first ran", first, 11);
        DUE.is("9: cold is not lost", m.sums(0), 42);
        DUE.is("9: 5", m.sums(5), NONE);
        for (int beyond : BEYOND) {
            DUE.is("9: beyond", m.sums(beyond), NONE);
        }
    }

    private static void promise10() {
        MistHands m = new MistHands();
        DUE.is("10: no law", m.night(60, 0), -2);
        m.ground(4, 0, 9, 0);
        m.ground(0, 4, 2, 1);
        // Mist at step 0 is now, and no part of the night.
        Due.law(m, "m50(t=0);m5(k=1&t>1);m3(h=9&t=4);m3(h=9&t=6)");
        for (int what = 0; what < 4; what++) {
            DUE.is("10: no mist", m.night(1, what), -2);
        }
        DUE.is("10: no mist", m.night(1, 4), 0);
        int[] due = {12, 4, 48, 2, 6};
        for (int what = 0; what < 5; what++) {
            DUE.is("10: " + what, m.night(7, what), due[what]);
        }
        DUE.is("10: nothing is done", m.count(0), 0);
        m.steps(3);
        DUE.is("10: as the step counts", m.night(1, 1), 4);
        DUE.is("10: the lowest cell then", m.night(1, 2), 4);
        DUE.is("10: as the step counts", m.night(1, 3), 4);
        DUE.is("10: longest", m.night(60, 4), 60);
        for (int beyond : BEYOND) {
            DUE.is("10: n", m.night(beyond, 0), NONE);
            DUE.is("10: what", m.night(1, beyond), NONE);
        }
        DUE.is("10: n 0", m.night(0, 0), NONE);
        DUE.is("10: n 61", m.night(61, 0), NONE);
        DUE.is("10: what 5", m.night(1, 5), NONE);
    }

    private static void promise11() {
        MistHands m = new MistHands();
        m.ground(1, 2, 10, 0);
        Due.law(m, "m3*t(t<5)");
        // Tops 13, 16, 19, 22, and none from step 5 on.
        DUE.is("11: at the ground", m.sun(1, 2, 10, 4), 0);
        DUE.is("11: at the first top", m.sun(1, 2, 13, 4), 1);
        DUE.is("11: below the second", m.sun(1, 2, 15, 4), 1);
        DUE.is("11: at the third", m.sun(1, 2, 19, 6), 5);
        DUE.is("11: above all", m.sun(1, 2, 198, 60), 60);
        DUE.is("11: below the ground", m.sun(1, 2, 9, 4), NONE);
        DUE.is("11: height 199", m.sun(1, 2, 199, 4), NONE);
        DUE.is("11: height -1", m.sun(0, 0, -1, 4), NONE);
        DUE.is("11: n 0", m.sun(1, 2, 20, 0), NONE);
        DUE.is("11: n 61", m.sun(1, 2, 20, 61), NONE);
        DUE.is("11: x 12", m.sun(12, 2, 20, 1), NONE);
        DUE.is("11: y 12", m.sun(1, 12, 20, 1), NONE);
        for (int beyond : BEYOND) {
            DUE.is("11: x", m.sun(beyond, 2, 20, 1), NONE);
            DUE.is("11: y", m.sun(1, beyond, 20, 1), NONE);
            DUE.is("11: height", m.sun(1, 2, beyond, 1), NONE);
            DUE.is("11: n", m.sun(1, 2, 20, beyond), NONE);
        }
    }

    private static void promise12() {
        MistHands m = new MistHands();
        m.ground(5, 5, 50, 0);
        m.air(5, 5, 100, 0);
        // 100 now; behind the steps 75 and 56, with 25 and less below.
        DUE.is("12: now is no part of the night", m.band(1, 100), 0);
        DUE.is("12: 76", m.band(1, 76), 0);
        DUE.is("12: 75", m.band(1, 75), 51);
        DUE.is("12: ever", m.band(60, 75), 51);
        m.ground(5, 5, 99, 0);
        DUE.is("12: none", m.band(1, 75), -2);
        m.ground(5, 5, 98, 0);
        DUE.is("12: the highest", m.band(1, 75), 99);
        DUE.is("12: f 9999", m.band(60, 9999), 0);
        DUE.is("12: f 0", m.band(1, 0), NONE);
        DUE.is("12: f 10000", m.band(1, 10000), NONE);
        DUE.is("12: n 0", m.band(0, 1), NONE);
        DUE.is("12: n 61", m.band(61, 1), NONE);
        for (int beyond : BEYOND) {
            DUE.is("12: n", m.band(beyond, 1), NONE);
            DUE.is("12: f", m.band(1, beyond), NONE);
        }
        DUE.is("12: nothing is done", m.cell(5, 5, 2), 100);
        m = new MistHands();
        DUE.is("12: f 1", m.band(1, 1), 0);
        m.ground(0, 0, 7, 0);
        Due.law(m, "c8(x=0&y=0&t=3)");
        DUE.is("12: just n steps", m.band(3, 1), 0);
        DUE.is("12: the fourth", m.band(4, 1), 8);
    }

    private static void promise13() {
        MistHands m = new MistHands();
        m.ground(5, 5, 10, 0);
        m.air(5, 5, 40, 0);
        m.air(5, 9, 40, 0);
        // Without: 10 go up to 53. With trees there they go to the left one, 64.
        int[] due = {1, 1, 64, 10};
        for (int what = 0; what < 4; what++) {
            DUE.is("13: " + what, m.works(5, 4, 1, what), due[what]);
        }
        DUE.is("13: none gains", m.works(0, 0, 60, 2), -2);
        DUE.is("13: how much", m.works(0, 0, 60, 3), 0);
        DUE.is("13: nothing is done", m.cell(5, 4, 1), 0);
        DUE.is("13: what 4", m.works(5, 4, 1, 4), NONE);
        DUE.is("13: n 0", m.works(5, 4, 0, 0), NONE);
        DUE.is("13: n 61", m.works(5, 4, 61, 0), NONE);
        DUE.is("13: x 12", m.works(12, 4, 1, 0), NONE);
        DUE.is("13: y 12", m.works(5, 12, 1, 0), NONE);
        for (int beyond : BEYOND) {
            DUE.is("13: x", m.works(beyond, 4, 1, 0), NONE);
            DUE.is("13: y", m.works(5, beyond, 1, 0), NONE);
            DUE.is("13: n", m.works(5, 4, beyond, 0), NONE);
            DUE.is("13: what", m.works(5, 4, 1, beyond), NONE);
        }
        m.ground(5, 4, 0, 2);
        DUE.is("13: it has trees", m.works(5, 4, 1, 0), NONE);
        m = new MistHands();
        // More trees count for n, and the sort of the cell is no longer what it was.
        Due.law(m, "c9(k=1);cn*4(1=1)");
        m.ground(0, 0, 0, 1);
        // Each of the four beside gets 4 and gives 1 of them on, each to another cell.
        DUE.is("13: beside trees", m.works(6, 6, 1, 0), 8);
        // Without, 0 gets 9 and gives 3 of them to 1; with trees only 1 and 12 get 4, and give 1 each.
        int[] river = {3, 1, 12, 3};
        for (int what = 0; what < 4; what++) {
            DUE.is("13: no river, " + what, m.works(0, 0, 1, what), river[what]);
        }
    }

    private static void promise14() {
        MistHands m = new MistHands();
        m.ground(5, 5, 10, 0);
        m.air(5, 5, 40, 0);
        // 53 gets 10, and no trees but its own would keep them away.
        DUE.is("14: told even if it is no less", m.dam(53, 1, 0), 0);
        DUE.is("14: cold", m.dam(53, 1, 1), 10);
        DUE.is("14: nothing is done", m.cell(0, 0, 1), 0);
        MistHands path = new MistHands();
        path.ground(5, 5, 10, 0);
        path.air(5, 5, 40, 0);
        path.ground(5, 4, 1, 0);
        path.ground(4, 5, 2, 0);
        path.ground(6, 5, 2, 0);
        path.ground(5, 6, 2, 0);
        // 65 gives 10 to 53, and 53 then 3 to 41; with trees on 53 the cold goes to 64 and to 52.
        DUE.is("14: the dam", path.dam(41, 2, 0), 53);
        DUE.is("14: cold", path.dam(41, 2, 1), 0);
        DUE.is("14: too far on", path.dam(41, 1, 0), 0);
        // Trees on 41 send the 3 to 52: for 52 no other cell than 0 does better than nothing.
        DUE.is("14: nothing to keep away", path.dam(52, 2, 0), 0);
        DUE.is("14: nothing to keep away", path.dam(52, 2, 1), 0);
        lastDam();
        m = new MistHands();
        DUE.is("14: the lowest of like ones but the told", m.dam(0, 20, 0), 1);
        DUE.is("14: no cold", m.dam(143, 20, 1), 0);
        DUE.is("14: cell 144", m.dam(144, 1, 0), NONE);
        DUE.is("14: n 0", m.dam(0, 0, 0), NONE);
        DUE.is("14: n 21", m.dam(0, 21, 0), NONE);
        DUE.is("14: what 2", m.dam(0, 1, 2), NONE);
        for (int beyond : BEYOND) {
            DUE.is("14: cell", m.dam(beyond, 1, 0), NONE);
            DUE.is("14: n", m.dam(0, beyond, 0), NONE);
            DUE.is("14: what", m.dam(0, 1, beyond), NONE);
        }
        for (int cell = 0; cell < 144; cell++) {
            m.ground(cell % 12, cell / 12, 0, 2);
        }
        DUE.is("14: one that has trees counts, too", m.dam(5, 3, 0), 0);
    }

    private static void lastDam() {
        MistHands m = new MistHands();
        m.ground(10, 11, 10, 0);
        m.air(10, 11, 40, 0);
        m.ground(11, 11, 1, 0);
        m.ground(10, 10, 2, 0);
        m.ground(9, 11, 2, 0);
        // 142 gives 10 to 143, and 143 then 3 to 131; with trees on 143 the cold goes to 130 and to 118.
        DUE.is("14: the last cell", m.dam(131, 2, 0), 143);
        DUE.is("14: cold", m.dam(131, 2, 1), 0);
        m = new MistHands();
        for (int cell = 0; cell < 144; cell++) {
            m.air(cell % 12, cell / 12, 9999, 0);
        }
        DUE.is("14: all are full", m.dam(0, 1, 1), 9999);
        DUE.is("14: all are full", m.dam(0, 1, 0), 1);
    }

    private static void promise15() {
        MistHands m = new MistHands();
        DUE.is("15: lowest", m.road(0, 0, 1, 1, 0), true);
        DUE.is("15: highest", m.road(19, 9, 8, 99, 143), true);
        DUE.is("15: bits", m.count(4), 1 << 19 | 1);
        DUE.is("15: in place of the one before", m.road(0, 5, 6, 3, 3), true);
        DUE.is("15: bits", m.count(4), 1 << 19 | 1);
        for (int beyond : BEYOND) {
            DUE.is("15: i", m.road(beyond, 0, 1, 1, 0), false);
            DUE.is("15: a", m.road(2, beyond, 1, 1, 0), false);
            DUE.is("15: b", m.road(2, 0, beyond, 1, 0), false);
            DUE.is("15: length", m.road(2, 0, 1, beyond, 0), false);
            DUE.is("15: cell", m.road(2, 0, 1, 1, beyond), false);
        }
        DUE.is("15: i 20", m.road(20, 0, 1, 1, 0), false);
        DUE.is("15: a 10", m.road(2, 10, 1, 1, 0), false);
        DUE.is("15: b 10", m.road(2, 0, 10, 1, 0), false);
        DUE.is("15: length 0", m.road(2, 0, 1, 0, 0), false);
        DUE.is("15: length 100", m.road(2, 0, 1, 100, 0), false);
        DUE.is("15: cell 144", m.road(2, 0, 1, 1, 144), false);
        DUE.is("15: one node twice", m.road(2, 4, 4, 1, 0), false);
        DUE.is("15: refused changes nothing", m.count(4), 1 << 19 | 1);
    }

    private static void promise16() {
        MistHands m = new MistHands();
        m.road(0, 0, 1, 10, 5);
        m.road(1, 1, 2, 7, 6);
        m.road(2, 0, 3, 1, 7);
        m.road(3, 3, 2, 1, 8);
        DUE.is("16: no yards", m.soonest(0, 1, 0, 0), -2);
        // Road 1 in 10 minutes from step 0 on; road 2 opens in step 2; road 3 is open till step 1, and in step 9.
        Due.law(m, "y100(x=5);y30(x=6);y100(x=7&t>1);y100(x=8&t<2);y100(x=8&t=9)");
        DUE.is("16: on a road", m.soonest(0, 1, 0, 0), 10);
        DUE.is("16: and back", m.soonest(1, 0, 3, 1), 13);
        DUE.is("16: rounded up", m.soonest(1, 2, 0, 0), 24);
        DUE.is("16: on two", m.soonest(0, 2, 0, 0), 34);
        DUE.is("16: on two without waiting", m.soonest(0, 2, 0, 1), 34);
        DUE.is("16: waiting for the road", m.soonest(0, 3, 0, 0), 21);
        // To 1 at 29, back at 39, and in at once.
        DUE.is("16: without waiting", m.soonest(0, 3, 19, 1), 40);
        DUE.is("16: from there on", m.soonest(0, 3, 20, 1), 21);
        DUE.is("16: where one is", m.soonest(4, 4, 299, 0), 299);
        DUE.is("16: where one is", m.soonest(4, 4, 0, 1), 0);
        DUE.is("16: no road", m.soonest(0, 4, 0, 0), -2);
        m.steps(2);
        DUE.is("16: from now on", m.soonest(0, 3, 0, 1), 1);
        DUE.is("16: nothing is done", m.count(0), 2);
        DUE.is("16: waiting till step 9", m.soonest(3, 2, 65, 0), 71);
        DUE.is("16: the last minute of a step", m.soonest(3, 2, 79, 0), 80);
        DUE.is("16: too late for the road", m.soonest(3, 2, 80, 0), 80 + 1 + 10 + 24);
    }

    private static void promise16Bounds() {
        MistHands m = new MistHands();
        m.road(0, 0, 1, 10, 5);
        m.road(1, 1, 2, 10, 5);
        Due.law(m, "y100(1=1)");
        DUE.is("16: by 300", m.soonest(0, 1, 290, 0), 300);
        DUE.is("16: not by 300", m.soonest(0, 1, 291, 0), -2);
        DUE.is("16: none goes in at 300", m.soonest(0, 2, 290, 0), -2);
        DUE.is("16: by 300", m.soonest(0, 2, 280, 1), 300);
        Due.law(m, "y999(1=1)");
        m.road(0, 0, 1, 1, 5);
        DUE.is("16: a minute at least", m.soonest(0, 1, 299, 1), 300);
        Due.law(m, "y1(1=1)");
        m.road(0, 0, 1, 3, 5);
        DUE.is("16: 300 minutes", m.soonest(0, 1, 0, 0), 300);
        DUE.is("16: 301", m.soonest(0, 1, 1, 0), -2);
        m.road(0, 9, 8, 1, 5);
        m.road(1, 8, 9, 2, 5);
        DUE.is("16: highest nodes", m.soonest(9, 8, 0, 0), 100);
        DUE.is("16: highest nodes", m.soonest(8, 9, 0, 1), 100);
        DUE.is("16: from 10", m.soonest(10, 1, 0, 0), NONE);
        DUE.is("16: to 10", m.soonest(0, 10, 0, 0), NONE);
        DUE.is("16: minute 300", m.soonest(0, 1, 300, 0), NONE);
        DUE.is("16: what 2", m.soonest(0, 1, 0, 2), NONE);
        for (int beyond : BEYOND) {
            DUE.is("16: from", m.soonest(beyond, 1, 0, 0), NONE);
            DUE.is("16: to", m.soonest(0, beyond, 0, 0), NONE);
            DUE.is("16: minute", m.soonest(0, 1, beyond, 0), NONE);
            DUE.is("16: what", m.soonest(0, 1, 0, beyond), NONE);
        }
    }

    private static void promise17() {
        MistHands m = new MistHands();
        m.road(7, 0, 1, 10, 5);
        DUE.is("17: one road", m.edge(2), -2);
        m.road(9, 2, 3, 10, 6);
        DUE.is("17: no node in common", m.edge(0), -2);
        DUE.is("17: no node in common", m.edge(1), -2);
        m.road(3, 3, 1, 10, 7);
        DUE.is("17: no yards", m.edge(0), 3);
        DUE.is("17: no yards", m.edge(1), 7);
        DUE.is("17: no yards", m.edge(2), 0);
        Due.law(m, "y10(x=5);y90(x=6);y50(x=7)");
        // 7 and 9 differ by 80, but have no node in common; 3 differs from each by 40.
        DUE.is("17: the least first, then second", m.edge(0), 3);
        DUE.is("17: the least first, then second", m.edge(1), 7);
        DUE.is("17: by how many", m.edge(2), 40);
        Due.law(m, "y10(x=5);y91(x=6);y50(x=7)");
        DUE.is("17: most", m.edge(1), 9);
        DUE.is("17: by how many", m.edge(2), 41);
        DUE.is("17: 3", m.edge(3), NONE);
        m = new MistHands();
        m.road(0, 4, 9, 10, 5);
        m.road(1, 9, 8, 10, 6);
        DUE.is("17: the lowest two", m.edge(0), 0);
        DUE.is("17: the lowest two", m.edge(1), 1);
        m = new MistHands();
        m.road(18, 4, 9, 10, 5);
        m.road(19, 3, 4, 10, 6);
        DUE.is("17: the highest two", m.edge(0), 18);
        DUE.is("17: the highest two", m.edge(1), 19);
        for (int beyond : BEYOND) {
            DUE.is("17: what", m.edge(beyond), NONE);
        }
    }

    private static void promise18() {
        MistHands m = new MistHands();
        DUE.is("18: lowest", m.was(0, 0, 0, 0, 0), 1);
        DUE.is("18: highest", m.was(99, 99, 99, 99, 999), 2);
        DUE.is("18: i", m.was(100, 0, 0, 0, 0), NONE);
        DUE.is("18: j", m.was(0, 100, 0, 0, 0), NONE);
        DUE.is("18: l", m.was(0, 0, 100, 0, 0), NONE);
        DUE.is("18: top", m.was(0, 0, 0, 100, 0), NONE);
        DUE.is("18: till", m.was(0, 0, 0, 0, 1000), NONE);
        for (int beyond : BEYOND) {
            DUE.is("18: i", m.was(beyond, 0, 0, 0, 0), NONE);
            DUE.is("18: j", m.was(0, beyond, 0, 0, 0), NONE);
            DUE.is("18: l", m.was(0, 0, beyond, 0, 0), NONE);
            DUE.is("18: top", m.was(0, 0, 0, beyond, 0), NONE);
            DUE.is("18: till", m.was(0, 0, 0, 0, beyond), NONE);
        }
        for (int night = 3; night <= 60; night++) {
            DUE.is("18: night", m.was(1, 2, 3, 4, 5), night);
        }
        DUE.is("18: 60 are", m.was(1, 2, 3, 4, 5), NONE);
        DUE.is("18: 60 are", m.count(3), 60);
    }

    private static MistHands threeNights() {
        MistHands m = new MistHands();
        m.was(99, 10, 50, 9, 100);
        m.was(40, 20, 50, 1, 200);
        m.was(60, 15, 50, 0, 900);
        return m;
    }

    private static void promise19() {
        MistHands m = new MistHands();
        DUE.is("19: no nights", m.line(0, 5, 5, 0), 0);
        DUE.is("19: no nights", m.line(0, 5, 5, 1), 0);
        m = threeNights();
        DUE.is("19: all said", m.line(0, 7, 3, 0), 3);
        DUE.is("19: all said", m.line(0, 7, 3, 1), 0);
        DUE.is("19: one not said", m.line(0, 3, 7, 0), 3);
        DUE.is("19: one not said", m.line(0, 3, 7, 1), 61);
        DUE.is("19: j", m.line(1, 3, 7, 0), 3);
        DUE.is("19: j", m.line(1, 3, 7, 1), 16);
        DUE.is("19: l, all or none", m.line(2, 1, 3, 0), 2);
        DUE.is("19: l, all or none", m.line(2, 1, 3, 1), 51);
        DUE.is("19: of like ones the lowest", m.line(2, 1, 2, 1), 0);
        DUE.is("19: free", m.line(2, 0, 999, 0), 0);
        DUE.is("19: free", m.line(2, 999, 0, 1), 0);
        m.was(99, 0, 0, 0, 0);
        m.was(99, 0, 0, 0, 0);
        DUE.is("19: line 100", m.line(0, 1, 999, 1), 100);
        DUE.is("19: line 100", m.line(0, 1, 999, 0), 2);
        DUE.is("19: number 3", m.line(3, 1, 1, 0), NONE);
        DUE.is("19: missed 1000", m.line(0, 1000, 1, 0), NONE);
        DUE.is("19: said 1000", m.line(0, 1, 1000, 0), NONE);
        DUE.is("19: what 2", m.line(0, 1, 1, 2), NONE);
        for (int beyond : BEYOND) {
            DUE.is("19: number", m.line(beyond, 1, 1, 0), NONE);
            DUE.is("19: missed", m.line(0, beyond, 1, 0), NONE);
            DUE.is("19: said", m.line(0, 1, beyond, 0), NONE);
            DUE.is("19: what", m.line(0, 1, 1, beyond), NONE);
        }
    }

    private static void promise20() {
        MistHands m = new MistHands();
        DUE.is("20: no nights", m.tells(1, 1), 0);
        m.was(50, 50, 20, 9, 0);
        m.was(50, 50, 10, 0, 0);
        DUE.is("20: the third", m.tells(5, 5), 2);
        DUE.is("20: all free", m.tells(5, 0), 0);
        m = new MistHands();
        m.was(50, 20, 20, 9, 0);
        m.was(50, 10, 10, 0, 0);
        DUE.is("20: of like ones the first", m.tells(5, 5), 1);
        DUE.is("20: highest prices", m.tells(999, 999), 1);
        DUE.is("20: 1000", m.tells(1000, 0), NONE);
        DUE.is("20: 1000", m.tells(0, 1000), NONE);
        for (int beyond : BEYOND) {
            DUE.is("20: missed", m.tells(beyond, 0), NONE);
            DUE.is("20: said", m.tells(0, beyond), NONE);
        }
    }

    private static void promise21() {
        MistHands m = threeNights();
        DUE.is("21: no law says none", m.held(10, 3), 20);
        Due.law(m, "f7(1=1)");
        DUE.is("21: all are said", m.held(10, 3), 3);
        Due.law(m, "fi-50(1=1)");
        DUE.is("21: above 0", m.held(10, 3), 13);
        Due.law(m, "f1(j=20);f0(j=10);f1(l=50)");
        DUE.is("21: the first that holds", m.held(10, 3), 13);
        m.air(0, 0, 5, 5);
        m.ground(0, 0, 5, 2);
        m.ground(1, 0, 5, 2);
        m.wind(1, 5);
        m.steps(1);
        Due.law(m, "f1(h+k+t+v+c+w+x+y+n+d=0);m9(1=1)");
        DUE.is("21: all others are 0", m.held(10, 3), 3);
        Due.law(m, "f1/0(1=1)");
        DUE.is("21: refused is 0", m.held(10, 3), 20);
        DUE.is("21: 1000", m.held(1000, 0), NONE);
        DUE.is("21: 1000", m.held(0, 1000), NONE);
        DUE.is("21: 999", m.held(999, 999), 1998);
        for (int beyond : BEYOND) {
            DUE.is("21: missed", m.held(beyond, 0), NONE);
            DUE.is("21: said", m.held(0, beyond), NONE);
        }
    }

    private static void promise22() {
        MistHands m = new MistHands();
        DUE.is("22: no nights", m.odds(0, 0, 0, 99, 0), -2);
        m.was(10, 20, 30, 5, 0);
        m.was(12, 20, 30, 8, 0);
        m.was(10, 22, 30, 0, 0);
        m.was(10, 20, 28, 0, 0);
        int[] due = {1, 2, 8};
        for (int what = 0; what < 3; what++) {
            DUE.is("22: all four, " + what, m.odds(10, 20, 30, 2, what), due[what]);
        }
        DUE.is("22: one", m.odds(10, 20, 30, 1, 0), 1);
        DUE.is("22: one", m.odds(10, 20, 30, 1, 1), 1);
        DUE.is("22: one", m.odds(10, 20, 30, 1, 2), 5);
        DUE.is("22: without mist", m.odds(10, 22, 30, 0, 0), 0);
        DUE.is("22: without mist", m.odds(10, 22, 30, 0, 1), 1);
        DUE.is("22: without mist", m.odds(10, 22, 30, 0, 2), 0);
        m.was(70, 70, 70, 1, 0);
        DUE.is("22: a top of 1", m.odds(70, 70, 70, 0, 0), 1);
        DUE.is("22: two of three", m.odds(11, 21, 30, 1, 1), 3);
        DUE.is("22: two of three", m.odds(11, 21, 30, 1, 0), 2);
        for (int what = 0; what < 3; what++) {
            DUE.is("22: none", m.odds(50, 50, 50, 1, what), -2);
        }
        DUE.is("22: i", m.odds(100, 0, 0, 0, 0), NONE);
        DUE.is("22: j", m.odds(0, 100, 0, 0, 0), NONE);
        DUE.is("22: l", m.odds(0, 0, 100, 0, 0), NONE);
        DUE.is("22: width", m.odds(0, 0, 0, 100, 0), NONE);
        DUE.is("22: what", m.odds(0, 0, 0, 0, 3), NONE);
        for (int beyond : BEYOND) {
            DUE.is("22: i", m.odds(beyond, 0, 0, 0, 0), NONE);
            DUE.is("22: j", m.odds(0, beyond, 0, 0, 0), NONE);
            DUE.is("22: l", m.odds(0, 0, beyond, 0, 0), NONE);
            DUE.is("22: width", m.odds(0, 0, 0, beyond, 0), NONE);
            DUE.is("22: what", m.odds(0, 0, 0, 0, beyond), NONE);
        }
    }

    private static void promise23() {
        MistHands m = new MistHands();
        DUE.is("23: no nights", m.when(9, 9, 0), 0);
        DUE.is("23: no nights", m.when(9, 9, 1), 0);
        m = threeNights();
        DUE.is("23: of like ones the lowest", m.when(3, 3, 0), 100);
        DUE.is("23: cost", m.when(3, 3, 1), 300);
        DUE.is("23: early is dearer", m.when(3, 2, 0), 200);
        DUE.is("23: cost", m.when(3, 2, 1), 200);
        DUE.is("23: late is dearer", m.when(2, 3, 0), 100);
        DUE.is("23: cost", m.when(2, 3, 1), 200);
        m.was(0, 0, 0, 1, 999);
        DUE.is("23: the last minute", m.when(1, 0, 0), 999);
        DUE.is("23: highest price", m.when(99, 99, 0), 200);
        DUE.is("23: highest price", m.when(99, 99, 1), 99 * 899);
        DUE.is("23: early", m.when(100, 0, 0), NONE);
        DUE.is("23: late", m.when(0, 100, 0), NONE);
        DUE.is("23: what", m.when(0, 0, 2), NONE);
        for (int beyond : BEYOND) {
            DUE.is("23: early", m.when(beyond, 0, 0), NONE);
            DUE.is("23: late", m.when(0, beyond, 0), NONE);
            DUE.is("23: what", m.when(0, 0, beyond), NONE);
        }
    }

    private static void promise24() {
        MistHands m = new MistHands();
        // Of two pushes of 0 to 2: sums 0 to 4 in 1, 2, 3, 2, 1 ways of nine.
        long[] above = {8, 2, 1, 1, 0};
        long[] below = {9, 3, 3, 9, 1};
        for (int strength = 1; strength <= 5; strength++) {
            DUE.is("24: above " + strength, m.lid(strength, 2, 2, 0), above[strength - 1]);
            DUE.is("24: below " + strength, m.lid(strength, 2, 2, 1), below[strength - 1]);
        }
        DUE.is("24: least n and k", m.lid(1, 1, 1, 0), 1);
        DUE.is("24: least n and k", m.lid(1, 1, 1, 1), 2);
        DUE.is("24: all pushes", m.lid(108, 12, 9, 0), 1);
        DUE.is("24: all pushes", m.lid(108, 12, 9, 1), 1000000000000L);
        DUE.is("24: never", m.lid(109, 12, 9, 0), 0);
        DUE.is("24: never", m.lid(200, 12, 9, 1), 1);
        DUE.is("24: strength 0", m.lid(0, 1, 1, 0), -1);
        DUE.is("24: strength 201", m.lid(201, 1, 1, 0), -1);
        DUE.is("24: n 0", m.lid(1, 0, 1, 0), -1);
        DUE.is("24: n 13", m.lid(1, 13, 1, 0), -1);
        DUE.is("24: k 0", m.lid(1, 1, 0, 0), -1);
        DUE.is("24: k 10", m.lid(1, 1, 10, 0), -1);
        DUE.is("24: what 2", m.lid(1, 1, 1, 2), -1);
        for (int beyond : BEYOND) {
            DUE.is("24: strength", m.lid(beyond, 1, 1, 0), -1);
            DUE.is("24: n", m.lid(1, beyond, 1, 0), -1);
            DUE.is("24: k", m.lid(1, 1, beyond, 0), -1);
            DUE.is("24: what", m.lid(1, 1, 1, beyond), -1);
        }
    }

    private static void promise25And26() {
        MistHands m = new MistHands();
        DUE.is("25: lowest", m.seed(0), true);
        DUE.is("25: X", m.count(5), 0);
        DUE.is("25: highest", m.seed(65535), true);
        DUE.is("25: X", m.count(5), 65535);
        DUE.is("25: 65536", m.seed(65536), false);
        for (int beyond : BEYOND) {
            DUE.is("25: beyond", m.seed(beyond), false);
        }
        DUE.is("25: refused changes nothing", m.count(5), 65535);
        DUE.is("26: drawn", m.draw(1), 0);
        DUE.is("26: X", m.count(5), (25173L * 65535 + 13849) % 65536);
        m = new MistHands();
        m.ground(0, 0, 10, 0);
        m.air(0, 0, 37, 0);
        Due.law(m, "wv(1=1)");
        // X: 1, then 39022, then 61087.
        DUE.is("26: ran", m.draw(1), 10);
        DUE.is("26: X", m.count(5), 39022);
        DUE.is("26: the wind", m.count(100), 2);
        DUE.is("26: the wind is drawn ahead", m.cell(3, 3, 3), 2);
        // 28 give 7 on, and 10 give 3.
        DUE.is("26: ran this time", m.draw(1), 10);
        DUE.is("26: X", m.count(5), 61087);
        DUE.is("26: the wind", m.count(101), 7);
        DUE.is("26: the next wind is not drawn", m.count(102), 0);
        DUE.is("26: the step", m.count(0), 2);
        int x = m.count(5);
        DUE.is("26: n 0", m.draw(0), NONE);
        DUE.is("26: n 61", m.draw(61), NONE);
        for (int beyond : BEYOND) {
            DUE.is("26: n", m.draw(beyond), NONE);
        }
        DUE.is("26: refused changes nothing", m.count(5), x);
        m.draw(60);
        m.draw(37);
        m.draw(1);
        DUE.is("26: the wind of step 99", m.count(199), m.count(5) % 10);
        DUE.is("26: which is not 0", m.count(199) > 0, true);
        int water = m.cell(3, 3, 3);
        DUE.is("26: step 100", m.count(0), 100);
        int before = m.count(5);
        m.draw(1);
        DUE.is("26: X goes on", m.count(5), (25173L * before + 13849) % 65536);
        DUE.is("26: later steps have no wind", m.cell(3, 3, 3), water);
    }

    private static void promise27And28() {
        MistHands m = new MistHands();
        DUE.is("28: none was kept", m.undo(), false);
        m.ground(1, 1, 5, 2);
        m.air(1, 1, 40, 9);
        m.wind(5, 5);
        m.draw(3);
        int cold = m.cell(1, 1, 2);
        int ran = m.sums(2);
        int x = m.count(5);
        DUE.is("27: the step", m.keep(), 3);
        m.ground(1, 1, 6, 1);
        m.air(1, 1, 1, 1);
        m.wind(5, 6);
        Due.law(m, "c1(1=1)");
        m.road(4, 0, 1, 1, 1);
        m.was(1, 1, 1, 1, 1);
        m.feed(0, 0, 0, 0, 0);
        m.draw(4);
        m.seed(77);
        for (int again = 0; again < 2; again++) {
            DUE.is("28: undone", m.undo(), true);
            DUE.is("28: ground", m.cell(1, 1, 0), 5);
            DUE.is("28: sort", m.cell(1, 1, 1), 2);
            DUE.is("28: cold", m.cell(1, 1, 2), cold);
            DUE.is("28: water", m.cell(1, 1, 3), 9);
            DUE.is("28: the step", m.count(0), 3);
            DUE.is("28: winds", m.count(105), 5);
            DUE.is("28: ran", m.sums(2), ran);
            DUE.is("28: X", m.count(5), x);
            DUE.is("28: the law stays", m.count(1), 1);
            DUE.is("28: roads stay", m.count(4), 16);
            DUE.is("28: nights stay", m.count(3), 1);
            DUE.is("28: the tape stays", m.count(2), 20);
            m.steps(5);
        }
        DUE.is("27: kept anew", m.keep(), 8);
        m.steps(1);
        m.undo();
        DUE.is("28: as they were kept last", m.count(0), 8);
    }

    private static void promise29() {
        MistHands m = new MistHands();
        DUE.is("29: no numbers", m.check(0, 0), NONE);
        for (int x = 0; x < 12; x++) {
            m.air(x, 11, 1000 + x, 1);
        }
        m.feed(1000, 1001, 1002, 1003, 1004);
        DUE.is("29: not so many", m.check(11, 6), -2);
        DUE.is("29: y 12", m.check(12, 1), -2);
        DUE.is("29: n 13", m.check(11, 13), -2);
        for (int beyond : BEYOND) {
            DUE.is("29: y", m.check(beyond, 1), -2);
            DUE.is("29: n", m.check(11, beyond), -2);
        }
        DUE.is("29: the tape stays", m.count(2), 20);
        m.feed(1005, 1006, 1007, 1008, 1009);
        m.feed(1010, 1011, 1012, 0, 0);
        DUE.is("29: n 13 of 15", m.check(11, 13), -2);
        DUE.is("29: right", m.check(11, 12), NONE);
        DUE.is("29: the tape is empty", m.count(2), 0);
        m.feed(1000, 1, 1002, 3, 1004);
        DUE.is("29: the first that is not so", m.check(11, 5), 1);
        DUE.is("29: the tape is empty", m.count(2), 0);
        m.feed(1000, 1, 1002, 3, 1004);
        DUE.is("29: n first ones", m.check(11, 1), NONE);
        m.feed(1, 1001, 1002, 3, 1004);
        DUE.is("29: place 0", m.check(11, 5), 0);
        m.feed(1000 + (1 << 24), 0, 0, 0, 0);
        DUE.is("29: all four bytes", m.check(11, 1), 0);
        m.feed(1, 1, 1, 1, 1);
        DUE.is("29: none asked", m.check(11, 0), NONE);
        DUE.is("29: the tape is empty", m.count(2), 0);
    }

    private static void promise30() {
        MistHands m = new MistHands();
        m.steps(9);
        Due.law(m, "c1(1=1);w1(1=1)");
        m.feed(1, 2, 3, 4, 5);
        m.was(1, 1, 1, 1, 1);
        m.road(3, 0, 1, 1, 1);
        m.road(0, 0, 1, 1, 1);
        m.seed(1234);
        int[] due = {9, 2, 20, 1, 9, 1234};
        for (int what = 0; what < 6; what++) {
            DUE.is("30: " + what, m.count(what), due[what]);
        }
        m.wind(0, 3);
        m.wind(99, 4);
        DUE.is("30: first wind", m.count(100), 3);
        DUE.is("30: last wind", m.count(199), 4);
        DUE.is("30: later ones have 0", m.count(200), 0);
        DUE.is("30: later ones have 0", m.count(Integer.MAX_VALUE), 0);
        DUE.is("30: 6", m.count(6), NONE);
        DUE.is("30: 99", m.count(99), NONE);
        DUE.is("30: -1", m.count(-1), NONE);
        DUE.is("30: far", m.count(Integer.MIN_VALUE), NONE);
    }
}

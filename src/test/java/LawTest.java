/** The law's grammar, its faults with their places, and what it reckons (promise 6 with 7, 8 and 21). */
public final class LawTest {
    private static final Due DUE = new Due("law");

    public static void main(String[] args) {
        good();
        misplaced();
        digits();
        clauses();
        depth();
        reckons();
        letters();
        refused();
        asksAsMuchAsMatters();
        clausesInOrder();
        bounds();
        DUE.end();
    }

    private static void fault(String text, int number, int place) {
        MistHands m = new MistHands();
        Due.law(m, "m7(1=1)");
        DUE.is("\"" + text + "\"", Due.law(m, text), -1000L * number - place);
        DUE.is("the law before \"" + text + "\"", m.cell(0, 0, 4), 7);
    }

    private static void good(String text, int clauses) {
        MistHands m = new MistHands();
        DUE.is("\"" + text + "\"", Due.law(m, text), clauses);
        DUE.is("clauses of \"" + text + "\"", m.count(1), clauses);
    }

    private static void good() {
        good("c1(1=1)", 1);
        good("cc(c<c)", 1);
        good("chktvcw(1=1)".replace("hktvcw", "h+k+t+v+c+w"), 1);
        good("wx-y*n/d%i+j-l(1>2)", 1);
        good("s[1](([1]=1))", 1);
        good("m00000(99999=0)", 1);
        good("y1(1=1|1=2&1=3|!1=4)", 1);
        good("f1(!(1=1)&!!1=1);c1(1=1)", 2);
        good("c1(1=1);c1(1=1);w1(1=1);s1(1=1);m1(1=1);y1(1=1);f1(1=1)", 7);
    }

    private static void misplaced() {
        for (int sign = 0; sign < 256; sign++) {
            if ("cwsmyf".indexOf(sign) < 0) {
                fault((char) sign + "1(1=1)", 1, 0);
            }
            if ("hktvcwxyndijl0123456789[".indexOf(sign) < 0) {
                fault("c" + (char) sign, 1, 1);
                fault("c1(1=" + (char) sign, 1, 5);
                fault("c1(" + (char) sign, 1, "!(".indexOf(sign) < 0 ? 3 : 4);
            }
            if ("+-*/%(".indexOf(sign) < 0) {
                fault("ch" + (char) sign + "1(1=1)", 1, 2);
            }
            if ("+-*/%<>=".indexOf(sign) < 0) {
                fault("ch(h" + (char) sign + "1)", 1, 4);
            }
            if ("+-*/%&|)".indexOf(sign) < 0) {
                fault("ch(h=h" + (char) sign, 1, 6);
            }
            if ("+-*/%]".indexOf(sign) < 0) {
                fault("c[h" + (char) sign, 1, 3);
            }
            if ("&|)".indexOf(sign) < 0) {
                fault("c1((1=1)" + (char) sign, 1, 8);
            }
            if (sign != ';') {
                fault("c1(1=1)" + (char) sign, 1, 7);
            }
        }
        fault("c", 1, 1);
        fault("c1", 1, 2);
        fault("c1(", 1, 3);
        fault("c1(1", 1, 4);
        fault("c1(1=", 1, 5);
        fault("c1(1=1", 1, 6);
        fault("c1(1=1);", 1, 8);
        fault("c1(1=1)c1(1=1)", 1, 7);
        fault("c(1=1)", 1, 1);
        fault("c-1(1=1)", 1, 1);
        fault("c1(1)", 1, 4);
        fault("c1(1=1=1)", 1, 6);
        fault("c1((1+1)=2)", 1, 7);
        fault("c1([1=1])", 1, 5);
        fault("c1(1=1&)", 1, 7);
        fault("c1(!)", 1, 4);
        fault("c1()", 1, 3);
        fault("c[](1=1)", 1, 2);
        fault("c1 (1=1)", 1, 2);
        fault("c1h(1=1)", 1, 2);
        fault("ch1(1=1)", 1, 2);
        fault("c1[1](1=1)", 1, 2);
    }

    private static void digits() {
        good("c12345(12345=00001)", 1);
        fault("c123456(1=1)", 2, 6);
        fault("c000000(1=1)", 2, 6);
        fault("c1(1=1234567)", 2, 10);
        fault("c1(123456", 2, 8);
        fault("c1+[123456", 2, 9);
    }

    private static void clauses() {
        String fourteen = "c1(1=1);".repeat(13) + "c1(1=1)";
        good(fourteen, 14);
        fault(fourteen + ";", 1, 112);
        fault(fourteen + ";c1(1=1)", 4, 112);
        fault(fourteen + ";f", 4, 112);
        fault(fourteen + ";x1(1=1)", 1, 112);
        fault(fourteen + ";;", 1, 112);
        fault(fourteen + "c", 1, 111);
    }

    private static void depth() {
        good("c[[[[[[1]]]]]](1=1)", 1);
        fault("c[[[[[[[1]]]]]]](1=1)", 5, 7);
        good("c1((((((1=1))))))", 1);
        fault("c1(((((((1=1)))))))", 5, 8);
        good("c1(!!!!!1=1)", 1);
        fault("c1(!!!!!!1=1)", 5, 8);
        good("c1([[[[[1]]]]]=[[[[[1]]]]])", 1);
        fault("c1([[[[[[1]]]]]]=1)", 5, 8);
        fault("c1(1=[[[[[[1]]]]]])", 5, 10);
        good("c1(!(![[1]]=1))", 1);
        good("c1(!(!([1]=1)))", 1);
        fault("c1(!(!([[1]]=1)))", 5, 8);
        fault("c1(!(!(![1", 5, 8);
        // A ! is open till its piece ends, and no longer.
        good("c1(!1=1&!1=1&!1=1&!1=1&!1=1&!1=1&!1=1)", 1);
        good("c1(!!!!!1=1&!!!!!1=1|!!!!!1=1)", 1);
        good("c1(!!(1=1&((1=1)))&([[[[1]]]]=1))", 1);
        fault("c1(!!(1=1&(((1=1)))))", 5, 12);
        good("c[[[[[[1]]]]]](!!!!!1=1);c[[[[[[1]]]]]](!!!!!1=1)", 2);
        // What can't stand there is no seventh.
        fault("c[[[[[[(", 1, 7);
        fault("c1((((((1=1(", 1, 11);
        fault("c1(!!!!!1=1!", 1, 11);
    }

    private static void is(String worth, int due) {
        MistHands m = new MistHands();
        Due.law(m, "y" + worth + "(1=1)");
        DUE.is(worth, m.cell(0, 0, 6), due);
    }

    private static void holds(String condition, boolean due) {
        MistHands m = new MistHands();
        DUE.is("clauses of " + condition, Due.law(m, "m1(" + condition + ")"), 1);
        DUE.is(condition, m.cell(0, 0, 4), due ? 1 : 0);
    }

    private static void reckons() {
        is("10-3-2", 5);
        is("2+3*4", 14);
        is("[2+3]*4", 20);
        is("100/7/2", 7);
        is("100/[7/2]", 33);
        is("17%5*3", 6);
        is("3*17%5", 1);
        is("100-2*3-4", 90);
        is("[0-7]/2+10", 7);
        is("[0-7]%4+10", 7);
        is("7/[0-2]+10", 7);
        // 65536 times 65536 is 0 with 32 bits; 46341 times 46341 is below 0.
        is("65536*65536+5", 5);
        is("[46341*46341]/10000/1000+500", 286);
        holds("46341*46341<0", true);
        // The lowest number has no opposite: divided by -1 it stays, and leaves 0.
        holds("65536*32768/[0-1]<0", true);
        holds("65536*32768%[0-1]=0", true);
        holds("65536*32768-1>0", true);
        holds("1<2", true);
        holds("2<2", false);
        holds("3>2", true);
        holds("2>2", false);
        holds("2=2", true);
        holds("1=2", false);
        holds("!1=2", true);
        holds("!!1=2", false);
        holds("!1=2&1=2", false);
        holds("!(1=2&1=2)", true);
        holds("1=1|1=2&1=2", true);
        holds("(1=1|1=2)&1=2", false);
        holds("1=2&1=1|1=1", true);
        holds("1=2|1=2|1=1", true);
        holds("1=1&1=1&1=2", false);
        holds("1=2&1=1&1=1|1=2", false);
        holds("!(1=1|1=2)|1=2", false);
        holds("(1=2|(1=1&!(1=2)))&1=1", true);
        holds("1=1|1=2|1=2&1=2", true);
    }

    private static void letters() {
        MistHands m = new MistHands();
        m.steps(4);
        m.ground(3, 5, 21, 4);
        m.air(3, 5, 31, 41);
        m.wind(4, 6);
        m.ground(3, 4, 0, 2);
        m.ground(3, 6, 0, 2);
        m.ground(2, 5, 0, 2);
        String[] letters = {"h", "k", "t", "v", "c", "w", "x", "y", "n", "d", "i", "j", "l"};
        int[] due = {21, 4, 4, 6, 31, 41, 3, 5, 3, 0, 0, 0, 0};
        for (int i = 0; i < letters.length; i++) {
            Due.law(m, "m" + letters[i] + "(1=1)");
            DUE.is("m: " + letters[i], m.cell(3, 5, 4), due[i]);
            Due.law(m, "m17(1=1);y" + letters[i] + "(1=1)");
            DUE.is("y: " + letters[i], m.cell(3, 5, 6), letters[i].equals("d") ? 17 : due[i]);
        }
        Due.law(m, "m0(d=0);m5(1=1);y9(d=0);y1(1=1)");
        DUE.is("d in m is 0", m.cell(3, 5, 4), 0);
        DUE.is("d in y", m.cell(3, 5, 6), 9);
        Due.law(m, "m5(1=1);yd+1(d=5)");
        DUE.is("d in a y's C and E", m.cell(3, 5, 6), 6);
        // d is the mist of this cell, not one that was asked before.
        Due.law(m, "m5(x=3);yd(1=1);wd(1=1);cd(1=1);sd(1=1)");
        DUE.is("d here", m.cell(3, 5, 6), 5);
        DUE.is("no mist, d is 0", m.cell(4, 5, 6), 0);
        m.cell(3, 5, 6);
        int cold = m.sums(0);
        int water = m.sums(1);
        m.steps(1);
        DUE.is("d in c is 0", m.sums(0), cold);
        DUE.is("d in w is 0", m.sums(1), water);
        corners();
    }

    private static void corners() {
        MistHands m = new MistHands();
        for (int cell = 0; cell < 144; cell++) {
            m.ground(cell % 12, cell / 12, 0, 2);
        }
        Due.law(m, "mn(1=1)");
        DUE.is("beside a corner", m.cell(0, 0, 4), 2);
        DUE.is("beside a corner", m.cell(11, 0, 4), 2);
        DUE.is("beside a corner", m.cell(0, 11, 4), 2);
        DUE.is("beside a corner", m.cell(11, 11, 4), 2);
        DUE.is("beside a side", m.cell(0, 5, 4), 3);
        DUE.is("beside a side", m.cell(11, 5, 4), 3);
        DUE.is("beside a side", m.cell(5, 0, 4), 3);
        DUE.is("beside a side", m.cell(5, 11, 4), 3);
        DUE.is("beside all", m.cell(5, 5, 4), 4);
        DUE.is("beside all", m.cell(10, 10, 4), 4);
        DUE.is("beside all", m.cell(1, 1, 4), 4);
    }

    private static void refused() {
        holds("1/0=0", false);
        holds("1%0=0", false);
        holds("!1/0=0", false);
        holds("!(1/0=0)", false);
        holds("1/0=0|1=1", false);
        holds("(1/0=0)|1=1", false);
        holds("0=1/h", false);
        is("1/0", 0);
        is("5+1/0", 0);
        is("5+[7%0]", 0);
        is("[1/0]*0+3", 0);
        MistHands m = new MistHands();
        Due.law(m, "m5(1/0=1);m6(1=1);y1/0(1=1);y9(1=1)");
        DUE.is("a refused C: the next clause", m.cell(0, 0, 4), 6);
        DUE.is("a refused E: 0", m.cell(0, 0, 6), 0);
    }

    private static void asksAsMuchAsMatters() {
        holds("1=1|1/0=1", true);
        holds("1=2&1/0=1|1=1", true);
        holds("1=1&1/0=1|1=1", false);
        holds("(1=1|1/0=1)&1=1", true);
        holds("(1=1|1/0=1)&1/0=1", false);
        holds("!(1=2&1/0=1)", true);
        holds("1=2&(1=1|1/0=1)&1/0=1|1=1", true);
        holds("1=1|1=2|1/0=1&1/0=1", true);
        holds("1=2&!1/0=1", false);
    }

    private static void clausesInOrder() {
        MistHands m = new MistHands();
        Due.law(m, "m1(x=1);y5(x<9);m2(x<3);m3(x=2);m4(y=1);y6(1=1)");
        int[] due = {2, 1, 2, 0};
        for (int x = 0; x < 4; x++) {
            DUE.is("the first that holds, x " + x, m.cell(x, 0, 4), due[x]);
        }
        DUE.is("the last one", m.cell(5, 1, 4), 4);
        DUE.is("of its own letter", m.cell(9, 1, 6), 6);
        DUE.is("of its own letter", m.cell(8, 1, 6), 5);
    }

    private static void bounds() {
        MistHands m = new MistHands();
        Due.law(m, "c500(x=0);w500(1=1);s0-5(1=1);m100(1=1);y1000(1=1)");
        m.steps(1);
        DUE.is("c is 99 at most", m.sums(0), 12 * 99);
        DUE.is("w is 99 at most, s 0 at least", m.sums(1), 144 * 99);
        DUE.is("m is 99 at most", m.cell(0, 0, 4), 99);
        DUE.is("y is 999 at most", m.cell(0, 0, 6), 999);
        Due.law(m, "c0-1(1=1);w0-1(1=1);s500(1=1);m99(1=1);y999(1=1)");
        m.air(0, 0, 500, 200);
        int cold = m.sums(0);
        m.steps(1);
        DUE.is("c is 0 at least", m.sums(0), cold);
        DUE.is("s is 99 at most, w 0 at least", m.cell(0, 0, 3), 101);
        DUE.is("m 99", m.cell(0, 0, 4), 99);
        DUE.is("y 999", m.cell(0, 0, 6), 999);
    }
}

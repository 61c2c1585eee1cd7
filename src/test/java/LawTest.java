/** The law's grammar, its faults with their places, and what it reckons (promise 6 with 7, 8 and 21). */
public final class LawTest {
    private static final Due DUE = new Due("law");

    public static void main(String[] args) {
        text();
        good();
        clausesInOrder();
        bounds();
        tomorrow();
        choices();
        sums();
        factors();
        letters();
        numbersOfAnEvening();
        reckons();
        refused();
        asksAsMuchAsMatters();
        firstFault();
        misplaced();
        digits();
        clauses();
        depth();
        whatIsOpen();
        DUE.end();
    }

    private static void text() {
        DUE.sentence("THE LAW: a TEXT of at most 200 bytes, no blanks (none at first):");
        MistHands m = new MistHands();
        DUE.is("none at first", m.count(1), 0);
        DUE.is("none at first", m.cell(0, 0, 4), 0);
        DUE.is("none at first", m.cell(0, 0, 6), 0);
        for (int length = 197; length <= 200; length++) {
            String text = longText(length);
            DUE.is("length " + length, text.length(), length);
            DUE.is("length " + length, Due.law(m, text), 1);
            DUE.is("length " + length, m.cell(0, 0, 4), 7);
        }
        Due.feed(m, longText(201));
        DUE.is("length 201", m.law(201), MistHands.NONE);
        DUE.is("its first 200", m.law(200), -1000 - 200);
        DUE.is("the one before", m.cell(0, 0, 4), 7);
        longest();
        String good = "m1+[h](x<11&!(1=2));c1(1=1)";
        for (int at = 0; at <= good.length(); at++) {
            fault(good.substring(0, at) + " " + good.substring(at), 1, at);
            fault(good.substring(0, at) + "\t" + good.substring(at), 1, at);
        }
    }

    /** As many as 200 bytes hold of each: parts, pieces, terms, factors, what is open. */
    private static void longest() {
        holds("1=2|".repeat(48) + "1=1", true);
        holds("1=2|".repeat(48) + "1=2", false);
        holds("1=1|".repeat(48) + "1=2", true);
        holds("1=1&".repeat(48) + "1=1", true);
        holds("1=1&".repeat(48) + "1=2", false);
        holds("1=2&".repeat(48) + "1=1", false);
        holds("1=2&1=1|".repeat(24) + "1=1", true);
        holds("1=1&1=2|".repeat(24) + "1=2", false);
        holds("1+".repeat(96) + "1=97", true);
        holds("1*".repeat(96) + "7=7", true);
        holds("7" + "/1".repeat(96) + "=7", true);
        holds("96=" + "1+".repeat(95) + "1", true);
        holds("!!!!!1=1&".repeat(20) + "1=2", false);
        holds("!!!!!1=2&".repeat(20) + "1=1", true);
        holds("1+2*[1+2*[1+2*[1+2*[1+2*[1+2]]]]]<2*3*[1+2*[1+2*[1+2*[1+2*[1+2]]]]]", true);
        holds("(((((1=2|1=1)&1=1|1=2)&1=1|1=2)&1=1|1=2)&1=1|1=2)&1=1", true);
        holds("1=2|1=1&(1=2|1=1&(1=2|1=1&(1=2|1=1&(1=2|1=1&(1=2|1=1)))))", true);
        is("1+2*[1+2*[1+2*[1+2*[1+2*[1+2*[1+2]]]]]]", 255);
        is("[[[[[[1+2]*2+1]*2+1]*2+1]*2+1]*2+1]*2+1", 255);
    }

    private static String longText(int length) {
        String worth = length % 2 == 0 ? "m07" : "m7";
        return worth + "-0".repeat((length - worth.length() - 5) / 2) + "(1=1)";
    }

    private static void fault(String text, int number, int place) {
        MistHands m = new MistHands();
        Due.law(m, "m7(1=1)");
        DUE.is("\"" + text + "\"", Due.law(m, text), -1000L * number - place);
        DUE.is("the law before \"" + text + "\"", m.cell(0, 0, 4), 7);
    }

    private static void good(String text, int clauses) {
        MistHands m = new MistHands();
        DUE.is("\"" + text + "\"", Due.law(m, text), clauses);
        DUE.is("clauses of \"" + text + "\"", m.count(1), clauses);
    }

    private static void good() {
        DUE.sentence("CLAUSES (14 at most) with a ; (59) between two: a letter, E, and (C):");
        good("c1(1=1)", 1);
        good("cc(c<c)", 1);
        good("c1(1=1);c1(1=1)", 2);
        good("c1(1=1);c1(1=1);w1(1=1);s1(1=1);m1(1=1);y1(1=1);f1(1=1)", 7);
        String fourteen = "c1(1=1);".repeat(13) + "c1(1=1)";
        good(fourteen.substring(8), 13);
        good(fourteen, 14);
        fault(fourteen + ";c1(1=1)", 4, 112);
        fault(";c1(1=1)", 1, 0);
        fault("c1(1=1);", 1, 8);
        fault("c1(1=1);;c1(1=1)", 1, 8);
        fault("c1(1=1):c1(1=1)", 1, 7);
        fault("c1(1=1)<c1(1=1)", 1, 7);
        fault("c1", 1, 2);
        fault("c(1=1)", 1, 1);
        fault("1(1=1)", 1, 0);
        fault("C1(1=1)", 1, 0);
        for (char letter = 'a'; letter <= 'z'; letter++) {
            if ("cwsmyf".indexOf(letter) >= 0) {
                good(letter + "1(1=1)", 1);
            } else {
                fault(letter + "1(1=1)", 1, 0);
            }
        }
    }

    private static void firstFault() {
        DUE.sentence("FAULTS, the first from the left:");
        fault("c123456(1=1);z", 2, 6);
        fault("z123456", 1, 0);
        fault("c[[[[[[[123456", 5, 7);
        fault("c[[[[[[123456", 2, 12);
        fault("c1(1=1", 1, 6);
        fault("c1 (1=123456", 1, 2);
        fault("c1(1=1);".repeat(14) + "c123456", 4, 112);
        fault("c1(1=1);".repeat(13) + "c123456", 2, 110);
        fault("c1(1=1);".repeat(13) + "c1(1=1)z", 1, 111);
        inEachPlace();
    }

    /** Where a factor or a piece can stand (the @), and how many ( [ ! are open there. */
    private static void inEachPlace() {
        String[] factors = {"0c@(1=1)", "0c1+@(1=1)", "0c1-@(1=1)", "0c1*@(1=1)", "0c1/@(1=1)", "0c1%@(1=1)",
            "1c[@](1=1)", "1c1+[1-@](1=1)", "1c1(@=1)", "1c1(1=@)", "1c1(1<@)", "1c1(1>@)", "1c1(1+@=1)",
            "1c1(1=1*@)", "1c1(1=1&@=1)", "1c1(1=1&1=@)", "1c1(1=1|@=1)", "1c1(1=1|1=@)", "2c1(!@=1)", "2c1((@=1))",
            "2c1((1=@))", "2c1([@]=1)", "2c1(1=[@])", "3c1(!(1=1|@=1))", "3c1(!!1=@)", "0c1(1=1);m@(1=1)",
            "1c1(1=1);m1(@=1)", "1c1(!1=1&@=1)", "1c1((1=1)|@=1)", "1c1(!(1=1)&1=@)"};
        for (String place : factors) {
            String ahead = place.substring(1, place.indexOf('@'));
            String behind = place.substring(place.indexOf('@') + 1);
            int free = 6 - (place.charAt(0) - '0');
            int clauses = place.indexOf(';') < 0 ? 1 : 2;
            good(ahead + "12345" + behind, clauses);
            fault(ahead + "123456" + behind, 2, ahead.length() + 5);
            good(ahead + "[".repeat(free) + "1" + "]".repeat(free) + behind, clauses);
            fault(ahead + "[".repeat(free + 1) + "1" + "]".repeat(free + 1) + behind, 5, ahead.length() + free);
            fault(ahead + ")" + behind, 1, ahead.length());
            fault(ahead, 1, ahead.length());
        }
        String[] pieces = {"1c1(@)", "1c1(1=1&@)", "1c1(1=1|@)", "2c1(!@)", "2c1((@))", "2c1((1=1|@))", "3c1(!(1=1&@))",
            "1c1(!1=1&@)", "1c1(!1=1|@)", "1c1((1=1)&@)", "1c1(1=1);m1(@)", "3c1(!!@)"};
        for (String place : pieces) {
            String ahead = place.substring(1, place.indexOf('@'));
            String behind = place.substring(place.indexOf('@') + 1);
            int free = 6 - (place.charAt(0) - '0');
            int clauses = place.indexOf(';') < 0 ? 1 : 2;
            good(ahead + "(".repeat(free) + "1=1" + ")".repeat(free) + behind, clauses);
            fault(ahead + "(".repeat(free + 1) + "1=1" + ")".repeat(free + 1) + behind, 5, ahead.length() + free);
            good(ahead + "!".repeat(free) + "1=1" + behind, clauses);
            fault(ahead + "!".repeat(free + 1) + "1=1" + behind, 5, ahead.length() + free);
            fault(ahead + behind, 1, ahead.length());
        }
    }

    private static void misplaced() {
        DUE.sentence("1 what can't stand there (the end, too);");
        for (int sign = 0; sign < 256; sign++) {
            if ("cwsmyf".indexOf(sign) < 0) {
                fault((char) sign + "1(1=1)", 1, 0);
            }
            if ("hktvcwxyndijl0123456789[".indexOf(sign) < 0) {
                fault("c" + (char) sign, 1, 1);
                fault("c1(1=" + (char) sign, 1, 5);
                fault("c1(" + (char) sign, 1, "!(".indexOf(sign) < 0 ? 3 : 4);
            }
            if ("+-*/%(".indexOf(sign) < 0) {
                fault("ch" + (char) sign + "1(1=1)", 1, 2);
            }
            if ("+-*/%<>=".indexOf(sign) < 0) {
                fault("ch(h" + (char) sign + "1)", 1, 4);
            }
            if ("+-*/%&|)".indexOf(sign) < 0) {
                fault("ch(h=h" + (char) sign, 1, 6);
            }
            if ("+-*/%]".indexOf(sign) < 0) {
                fault("c[h" + (char) sign, 1, 3);
            }
            if ("&|)".indexOf(sign) < 0) {
                fault("c1((1=1)" + (char) sign, 1, 8);
            }
            if (sign != ';') {
                fault("c1(1=1)" + (char) sign, 1, 7);
            }
        }
        fault("c", 1, 1);
        fault("c1", 1, 2);
        fault("c1(", 1, 3);
        fault("c1(1", 1, 4);
        fault("c1(1=", 1, 5);
        fault("c1(1=1", 1, 6);
        fault("c1(1=1);", 1, 8);
        fault("c1(1=1)c1(1=1)", 1, 7);
        fault("c(1=1)", 1, 1);
        fault("c-1(1=1)", 1, 1);
        fault("c1(1)", 1, 4);
        fault("c1(1=1=1)", 1, 6);
        fault("c1((1+1)=2)", 1, 7);
        fault("c1([1=1])", 1, 5);
        fault("c1(1=1&)", 1, 7);
        fault("c1(!)", 1, 4);
        fault("c1()", 1, 3);
        fault("c[](1=1)", 1, 2);
        fault("c1 (1=1)", 1, 2);
        fault("c1h(1=1)", 1, 2);
        fault("ch1(1=1)", 1, 2);
        fault("c1[1](1=1)", 1, 2);
    }

    private static void digits() {
        DUE.sentence("2 a sixth digit, at it;");
        good("c12345(12345=00001)", 1);
        fault("c123456(1=1)", 2, 6);
        fault("c000000(1=1)", 2, 6);
        fault("c1(1=1234567)", 2, 10);
        fault("c1(123456", 2, 8);
        fault("c1+[123456", 2, 9);
    }

    private static void clauses() {
        DUE.sentence("4 a 15th CLAUSE, at its letter (if that can stand there);");
        String fourteen = "c1(1=1);".repeat(13) + "c1(1=1)";
        good(fourteen, 14);
        fault(fourteen + ";", 1, 112);
        fault(fourteen + ";c1(1=1)", 4, 112);
        fault(fourteen + ";f", 4, 112);
        fault(fourteen + ";x1(1=1)", 1, 112);
        fault(fourteen + ";;", 1, 112);
        fault(fourteen + "c", 1, 111);
    }

    private static void depth() {
        DUE.sentence("5 a seventh of ( [ ! that are open in one another, at it");
        good("c[[[[[[1]]]]]](1=1)", 1);
        fault("c[[[[[[[1]]]]]]](1=1)", 5, 7);
        good("c[[[[[[1]]]]]]+[[[[[[1]]]]]](1=1)", 1);
        good("c[[[[[[1]+[1]]]]]](1=1)", 1);
        fault("c[[[[[[1]+[[1]]]]]]](1=1)", 5, 11);
        good("c1((((((1=1))))))", 1);
        fault("c1(((((((1=1)))))))", 5, 8);
        good("c1(!!!!!1=1)", 1);
        fault("c1(!!!!!!1=1)", 5, 8);
        good("c1([[[[[1]]]]]=[[[[[1]]]]])", 1);
        fault("c1([[[[[[1]]]]]]=1)", 5, 8);
        fault("c1(1=[[[[[[1]]]]]])", 5, 10);
        good("c1(!(![[1]]=1))", 1);
        good("c1(!(!([1]=1)))", 1);
        fault("c1(!(!([[1]]=1)))", 5, 8);
        fault("c1(!(!(![1", 5, 8);
        // What can't stand there is no seventh.
        fault("c[[[[[[(", 1, 7);
        fault("c[[[[[[!", 1, 7);
        fault("c1((((((1=1(", 1, 11);
        fault("c1((((((1=1[", 1, 11);
        fault("c1(!!!!!1=1!", 1, 11);
        fault("c1(!!!!!1!", 1, 9);
        // Each of the three as the seventh, behind six of the others.
        fault("c1(!(!(!(", 5, 8);
        fault("c1(!(!(!!", 5, 8);
        fault("c1(!(!(![", 5, 8);
    }

    private static void whatIsOpen() {
        DUE.sentence("(the ( of the CLAUSE counts; a ! is open till its PIECE ends;"
            + " the E of a CLAUSE stands ahead of it).");
        good("c1((((((1=1))))))", 1);
        fault("c1(((((((1=1)))))))", 5, 8);
        // A ! is open till its piece ends, and no longer.
        good("c1(!1=1&!1=1&!1=1&!1=1&!1=1&!1=1&!1=1)", 1);
        good("c1(!!!!!1=1&!!!!!1=1|!!!!!1=1)", 1);
        good("c1(!!(1=1&((1=1)))&([[[[1]]]]=1))", 1);
        fault("c1(!!(1=1&(((1=1)))))", 5, 12);
        good("c1(![[[[1]]]]=[[[[1]]]])", 1);
        fault("c1(![[[[[1]]]]]=1)", 5, 8);
        fault("c1(!1=[[[[[1]]]]])", 5, 10);
        good("c1(!1=1&[[[[[1]]]]]=1)", 1);
        good("c1(!(1=1)&[[[[[1]]]]]=1)", 1);
        good("c1(!!!!(1=1)&!!!!!1=1)", 1);
        // Ahead of its ( the E has all six for itself.
        good("c[[[[[[1]]]]]](!!!!!1=1);c[[[[[[1]]]]]](!!!!!1=1)", 2);
        good("c[[[[[[1]]]]]]((((((1=1))))))", 1);
        fault("c[[[[[[1]]]]]](!!!!!!1=1)", 5, 20);
    }

    private static void is(String worth, int due) {
        MistHands m = new MistHands();
        Due.law(m, "y" + worth + "(1=1)");
        DUE.is(worth, m.cell(0, 0, 6), due);
    }

    private static void holds(String condition, boolean due) {
        MistHands m = new MistHands();
        DUE.is("clauses of " + condition, Due.law(m, "m1(" + condition + ")"), 1);
        DUE.is(condition, m.cell(0, 0, 4), due ? 1 : 0);
    }

    private static void choices() {
        DUE.sentence("C: PARTS with a | between two, one of which must hold;");
        holds("1=1", true);
        holds("1=2", false);
        holds("1=1|1=2", true);
        holds("1=2|1=1", true);
        holds("1=2|1=2", false);
        holds("1=2|1=2|1=1", true);
        holds("1=2|1=2|1=2|1=2", false);
        DUE.sentence("a PART: PIECES with an & between two, all of which must;");
        holds("1=1&1=1", true);
        holds("1=1&1=2", false);
        holds("1=2&1=1", false);
        holds("1=1&1=1&1=1&1=2", false);
        holds("1=1&1=1&1=1&1=1", true);
        holds("1=1|1=2&1=2", true);
        holds("1=2&1=1|1=1", true);
        holds("1=2&1=1&1=1|1=2", false);
        holds("1=2|1=1&1=2|1=1&1=1", true);
        DUE.sentence("a PIECE: !PIECE, (C), or E, one of < > =, and E.");
        holds("1<2", true);
        holds("2<2", false);
        holds("3<2", false);
        holds("3>2", true);
        holds("2>2", false);
        holds("1>2", false);
        holds("2=2", true);
        holds("0-1<0", true);
        holds("1+1=4-2", true);
        holds("!1=2", true);
        holds("!1=1", false);
        holds("!!1=2", false);
        holds("!!!!!1=2", true);
        holds("!1=2&1=2", false);
        holds("!1=1|1=1", true);
        holds("!(1=2&1=2)", true);
        holds("!(1=1|1=2)|1=2", false);
        holds("(1=1|1=2)&1=2", false);
        holds("(1=2|(1=1&!(1=2)))&1=1", true);
        holds("((((1=1))))", true);
        fault("c1(1)", 1, 4);
        fault("c1(1==1)", 1, 5);
        fault("c1(1<=1)", 1, 5);
        fault("c1(1!=1)", 1, 4);
    }

    private static void sums() {
        DUE.sentence("E: TERMS with + or - between two; a TERM: FACTORS with one of * / % between two;"
            + " from the left on;");
        is("10-3-2", 5);
        is("10-3+2", 9);
        is("2+3*4", 14);
        is("2*3+4", 10);
        is("100/7/2", 7);
        is("100/7*2", 28);
        is("100*7/2", 350);
        is("17%5*3", 6);
        is("3*17%5", 1);
        is("100%30%7", 3);
        is("100/30%7", 3);
        is("100%30/7", 1);
        is("100-2*3-4", 90);
        is("100-20/3*3", 82);
        is("7/1", 7);
        is("7%1", 0);
        is("1*7", 7);
        is("7/7", 1);
        is("6/7", 0);
        is("6%7", 6);
        is("0-7/[0-1]", 7);
        fault("c+1(1=1)", 1, 1);
        fault("c-1(1=1)", 1, 1);
        fault("c1*-1(1=1)", 1, 3);
        fault("c1++1(1=1)", 1, 3);
        fault("c1+(1=1)", 1, 3);
    }

    private static void factors() {
        DUE.sentence("a FACTOR: [E], a number of one to five digits, or a letter:");
        is("[2+3]*4", 20);
        is("100/[7/2]", 33);
        is("[[[[[[9]]]]]]", 9);
        is("100-[20-[5-2]]", 83);
        is("0", 0);
        is("9", 9);
        is("12345-12300", 45);
        is("99999-99990", 9);
        is("00000+00042", 42);
        is("99999/1000", 99);
        fault("c[1(1=1)", 1, 3);
        fault("c1](1=1)", 1, 2);
        fault("c[](1=1)", 1, 2);
        fault("c123456(1=1)", 2, 6);
        fault("c1h(1=1)", 1, 2);
        fault("chh(1=1)", 1, 2);
    }

    private static void reckons() {
        DUE.sentence("All is reckoned with 32 bits, as the machine does;");
        is("[0-7]/2+10", 7);
        is("[0-7]%4+10", 7);
        is("7/[0-2]+10", 7);
        is("7%[0-4]+10", 13);
        // 65536 times 65536 is 0 with 32 bits; 46341 times 46341 is below 0.
        is("65536*65536+5", 5);
        is("[46341*46341]/10000/1000+500", 286);
        holds("46341*46341<0", true);
        holds("46340*46340>0", true);
        // 9999800001, less twice 2 to the 32nd: 1409865409.
        holds("99999*99999/10000/10=14098", true);
        holds("99999*99999%10000=5409", true);
        // 32768 times 65535 and 32767 more is the highest number.
        holds("32768*65535+32767>0", true);
        holds("32768*65535+32768<0", true);
        holds("32768*65535+32768=0-32768*65535-32768", true);
        holds("0-32768*65535-32769>0", true);
        // The lowest number has no opposite: divided by -1 it stays, and leaves 0.
        holds("65536*32768<0", true);
        holds("65536*32768/[0-1]=65536*32768", true);
        holds("65536*32768%[0-1]=0", true);
        holds("65536*32768-1>0", true);
        holds("65536*32768*[0-1]<0", true);
        // Numbers are set against each other as they are, not by how much they differ.
        holds("65536*32768<1", true);
        holds("1>65536*32768", true);
        holds("1<65536*32768", false);
    }

    private static MistHands lettersScene() {
        MistHands m = new MistHands();
        m.steps(4);
        m.ground(3, 5, 21, 4);
        m.air(3, 5, 31, 41);
        m.wind(4, 6);
        m.ground(3, 4, 0, 2);
        m.ground(3, 6, 0, 2);
        m.ground(2, 5, 0, 2);
        return m;
    }

    private static void letters() {
        DUE.sentence("h GROUND, k SORT, t THE STEP, v its WIND, c COLD, w WATER, x, y the place,");
        String[] letters = {"h", "k", "t", "v", "c", "w", "x", "y", "n", "i", "j", "l"};
        int[] due = {21, 4, 4, 6, 31, 41, 3, 5, 3, 0, 0, 0};
        for (int i = 0; i < letters.length; i++) {
            MistHands m = lettersScene();
            Due.law(m, "m" + letters[i] + "(1=1);y" + letters[i] + "(1=1);w" + letters[i] + "(1=1)");
            DUE.is("m: " + letters[i], m.cell(3, 5, 4), due[i]);
            DUE.is("y: " + letters[i], m.cell(3, 5, 6), due[i]);
            m.steps(1);
            DUE.is("w: " + letters[i], m.cell(3, 5, 3), 41 + due[i]);
            m = lettersScene();
            Due.law(m, "m1(" + letters[i] + "=" + due[i] + ");c9(" + letters[i] + "=" + due[i] + "&x=3&y=5)");
            DUE.is("m's C: " + letters[i], m.cell(3, 5, 4), 1);
            int cold = m.sums(0);
            m.steps(1);
            DUE.is("c's C: " + letters[i], m.sums(0), cold + 9);
        }
        DUE.sentence("n how many CELLS BESIDE have trees,");
        corners();
        DUE.sentence("d the MIST (in y; else 0),");
        MistHands m = lettersScene();
        Due.law(m, "m17(1=1);yd(1=1)");
        DUE.is("d in y", m.cell(3, 5, 6), 17);
        Due.law(m, "m17(1=1);y5(d=17);y6(1=1)");
        DUE.is("d in a y's C", m.cell(3, 5, 6), 5);
        Due.law(m, "yd+1(1=1)");
        DUE.is("no mist, d is 0", m.cell(3, 5, 6), 1);
        Due.law(m, "m500(1=1);yd(1=1)");
        DUE.is("d is the mist as bounded", m.cell(3, 5, 6), 99);
        Due.law(m, "m0(d=0);m5(1=1);y9(d=0);y1(1=1)");
        DUE.is("d in m is 0", m.cell(3, 5, 4), 0);
        DUE.is("d in y", m.cell(3, 5, 6), 9);
        // d is the mist of this cell, not one that was asked before.
        Due.law(m, "m5(x=3);yd(1=1);wd(1=1);cd(1=1);sd(1=1)");
        DUE.is("d here", m.cell(3, 5, 6), 5);
        DUE.is("no mist, d is 0", m.cell(4, 5, 6), 0);
        m.cell(3, 5, 6);
        int cold = m.sums(0);
        int water = m.sums(1);
        m.steps(1);
        DUE.is("d in c is 0", m.sums(0), cold);
        DUE.is("d in w is 0", m.sums(1), water);
        Due.law(m, "m5(1=1);s9(d=0)");
        water = m.cell(3, 5, 3);
        m.steps(1);
        DUE.is("d in s is 0", m.cell(3, 5, 3), water - 9);
    }

    private static void numbersOfAnEvening() {
        DUE.sentence("i j l the numbers of an evening (in f; else 0, and in f all others are 0).");
        MistHands m = lettersScene();
        m.was(11, 22, 33, 1, 1);
        String[] evening = {"i=11", "j=22", "l=33", "i+j*100+l=2244"};
        for (String condition : evening) {
            Due.law(m, "f1(" + condition + ")");
            DUE.is("f by " + condition, m.held(7, 0), 0);
        }
        for (String letter : new String[] {"h", "k", "t", "v", "c", "w", "x", "y", "n", "d"}) {
            Due.law(m, "m5(1=1);y5(1=1);f1(" + letter + "=0)");
            m.cell(3, 5, 6);
            DUE.is("in f is 0: " + letter, m.held(7, 0), 0);
            Due.law(m, "m5(1=1);y5(1=1);f" + letter + "(1=1)");
            m.cell(3, 5, 6);
            DUE.is("in f is 0: " + letter, m.held(7, 0), 7);
        }
        for (String letter : new String[] {"i", "j", "l"}) {
            Due.law(m, "m9+" + letter + "(1=1);y8+" + letter + "(1=1);w7+" + letter + "(1=1);f1(1=1)");
            m.held(7, 0);
            DUE.is("else 0, in m: " + letter, m.cell(3, 5, 4), 9);
            m.held(7, 0);
            DUE.is("else 0, in y: " + letter, m.cell(3, 5, 6), 8);
            int water = m.cell(3, 5, 3);
            m.held(7, 0);
            m.steps(1);
            DUE.is("else 0, in w: " + letter, m.cell(3, 5, 3), water + 7);
        }
    }

    private static void corners() {
        MistHands m = new MistHands();
        for (int cell = 0; cell < 144; cell++) {
            m.ground(cell % 12, cell / 12, 0, 2);
        }
        Due.law(m, "mn(1=1)");
        for (int cell = 0; cell < 144; cell++) {
            int x = cell % 12;
            int y = cell / 12;
            int sides = (x == 0 || x == 11 ? 1 : 2) + (y == 0 || y == 11 ? 1 : 2);
            DUE.is("trees on all sides of " + x + " " + y, m.cell(x, y, 4), sides);
        }
        int[][] sides = {{5, 4}, {4, 5}, {6, 5}, {5, 6}};
        for (int gone = 0; gone < 4; gone++) {
            m.ground(sides[gone][0], sides[gone][1], 0, 3);
            DUE.is("without " + (gone + 1) + " of the four", m.cell(5, 5, 4), 3 - gone);
        }
        m.ground(5, 5, 0, 0);
        DUE.is("its own trees do not count", m.cell(5, 5, 4), 0);
        m.ground(5, 5, 0, 2);
        DUE.is("its own trees do not count", m.cell(5, 5, 4), 0);
    }

    private static void refused() {
        DUE.sentence("what is divided by 0 is REFUSED: then a C does not hold, an E is 0.");
        holds("1/0=0", false);
        holds("1%0=0", false);
        holds("0/0=0", false);
        holds("0%0=0", false);
        holds("1/[1-1]=0", false);
        holds("1/0<1", false);
        holds("1/0>0-1", false);
        holds("!1/0=0", false);
        holds("!!1/0=0", false);
        holds("!(1/0=0)", false);
        holds("1/0=0|1=1", false);
        holds("(1/0=0)|1=1", false);
        holds("0=1/h", false);
        holds("1=1&1%h=0", false);
        is("1/0", 0);
        is("1%0", 0);
        is("5+1/0", 0);
        is("1/0+5", 0);
        is("5+[7%0]", 0);
        is("[1/0]*0+3", 0);
        is("0*[1/0]+3", 0);
        is("0/[1-1]+3", 0);
        is("0/1+3", 3);
        is("0%1+3", 3);
        MistHands m = new MistHands();
        Due.law(m, "m5(1/0=1);m6(1=1);y1/0(1=1);y9(1=1)");
        DUE.is("a refused C: the next clause", m.cell(0, 0, 4), 6);
        DUE.is("a refused E: 0, and no other clause", m.cell(0, 0, 6), 0);
        Due.law(m, "m5(6/x=3);m9/[x-1](1=1)");
        int[] due = {0, 0, 5, 4, 3};
        for (int x = 0; x < due.length; x++) {
            DUE.is("by the cell, " + x, m.cell(x, 0, 4), due[x]);
        }
    }

    private static void asksAsMuchAsMatters() {
        DUE.sentence("Of a C as much is asked, from the left, as matters.");
        holds("1=1|1/0=1", true);
        holds("1/0=1|1=1", false);
        holds("1=2|1/0=1|1=1", false);
        holds("1=2&1/0=1|1=1", true);
        holds("1=1&1/0=1|1=1", false);
        holds("1=1|1=1&1/0=1", true);
        holds("1=2&1=1&1/0=1|1=1", true);
        holds("(1=1|1/0=1)&1=1", true);
        holds("(1=1|1/0=1)&1/0=1", false);
        holds("(1=2&1/0=1)|1=1", true);
        holds("!(1=2&1/0=1)", true);
        holds("!(1=1|1/0=1)", false);
        holds("!(1=1|1/0=1)|1=1", true);
        holds("1=2&(1=1|1/0=1)&1/0=1|1=1", true);
        holds("1=1|1=2|1/0=1&1/0=1", true);
        holds("1=2&!1/0=1", false);
        holds("1=2&!1/0=1|1=1", true);
        // Of an E all is asked.
        is("0*1/0", 0);
        holds("0*[1/0]=0", false);
    }

    private static void clausesInOrder() {
        DUE.sentence("of the first one of a letter whose C holds the E (beyond its bounds the bound; none: 0):");
        MistHands m = new MistHands();
        Due.law(m, "m1(x=1);y5(x<9);m2(x<3);m3(x=2);m4(y=1);y6(1=1)");
        int[] due = {2, 1, 2, 0};
        for (int x = 0; x < 4; x++) {
            DUE.is("the first that holds, x " + x, m.cell(x, 0, 4), due[x]);
        }
        DUE.is("the last one", m.cell(5, 1, 4), 4);
        DUE.is("of its own letter", m.cell(9, 1, 6), 6);
        DUE.is("of its own letter", m.cell(8, 1, 6), 5);
        Due.law(m, "m0(x<5);m0-7(x<8);m3(1=1)");
        DUE.is("the first that holds, though it is 0", m.cell(4, 0, 4), 0);
        DUE.is("the first that holds, though it is below 0", m.cell(7, 0, 4), 0);
        DUE.is("the third", m.cell(8, 0, 4), 3);
        Due.law(m, "m1(x=0);".repeat(13) + "m9(x=1)");
        DUE.is("the 14th", m.cell(1, 0, 4), 9);
        DUE.is("none: 0", m.cell(2, 0, 4), 0);
        DUE.is("none of its letter: 0", m.cell(0, 0, 6), 0);
    }

    private static int coldBy(String worth) {
        MistHands m = Due.under("c" + worth + "(1=1)");
        m.steps(1);
        return m.cell(5, 5, 2);
    }

    private static int waterBy(String worth) {
        MistHands m = Due.under("w" + worth + "(1=1)");
        m.steps(1);
        return m.cell(5, 5, 3);
    }

    private static int driedBy(String worth) {
        MistHands m = Due.under("s" + worth + "(1=1)");
        m.air(5, 5, 0, 500);
        m.steps(1);
        return 500 - m.cell(5, 5, 3);
    }

    private static void bounds() {
        String[] worths = {"0-65536*32767", "0-99", "0-1", "0", "1", "98", "99", "100", "999", "65536*32767"};
        int[] due = {0, 0, 0, 0, 1, 98, 99, 99, 99, 99};
        DUE.sentence("c how much more COLD, w how much more WATER, s how much less WATER a CELL gets in a STEP"
            + " (0 to 99 each),");
        for (int i = 0; i < worths.length; i++) {
            DUE.is("c " + worths[i], coldBy(worths[i]), due[i]);
            DUE.is("w " + worths[i], waterBy(worths[i]), due[i]);
            DUE.is("s " + worths[i], driedBy(worths[i]), due[i]);
        }
        DUE.sentence("m how many hands deep the MIST is (0 to 99),");
        for (int i = 0; i < worths.length; i++) {
            DUE.is("m " + worths[i], Due.under("m" + worths[i] + "(1=1)").cell(5, 5, 4), due[i]);
        }
        DUE.sentence("y how many yards one sees (0 to 999),");
        String[] yards = {"0-65536*32767", "0-1", "0", "1", "99", "100", "998", "999", "1000", "99999", "65536*32767"};
        int[] seen = {0, 0, 0, 1, 99, 100, 998, 999, 999, 999, 999};
        for (int i = 0; i < yards.length; i++) {
            DUE.is("y " + yards[i], Due.under("y" + yards[i] + "(1=1)").cell(5, 5, 6), seen[i]);
        }
    }

    private static void tomorrow() {
        DUE.sentence("f whether there is MIST tomorrow (0 to 1: if it is above 0).");
        String[] worths = {"0-65536*32767", "0-1", "0", "1", "2", "99999", "1/0"};
        boolean[] said = {false, false, false, true, true, true, false};
        for (int i = 0; i < worths.length; i++) {
            MistHands m = Due.under("f" + worths[i] + "(1=1)");
            m.was(1, 1, 1, 0, 0);
            DUE.is("f " + worths[i], m.held(0, 7), said[i] ? 7 : 0);
        }
        MistHands m = Due.under("f1(i=2);f0(i=1);f1(1=1)");
        m.was(1, 1, 1, 0, 0);
        DUE.is("the first that holds", m.held(0, 7), 0);
        m.was(2, 1, 1, 0, 0);
        DUE.is("the first that holds", m.held(0, 7), 7);
        m.was(3, 1, 1, 0, 0);
        DUE.is("the first that holds", m.held(0, 7), 14);
    }
}

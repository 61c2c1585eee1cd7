import java.util.Random;

/** Writes laws by the grammar, and spoils some of them by a sign or two. */
final class LawWriter {
    private static final String SIGNS = "cwsmyfhktvxyndijl0123456789+-*/%<>=&|!()[]; ";
    private final Random random;

    LawWriter(Random random) {
        this.random = random;
    }

    /** A law of at most 200 signs; now and then one that has a fault. */
    String write() {
        String text = clauses(random.nextInt(30) == 0 ? 16 : 1 + random.nextInt(8));
        int kind = random.nextInt(12);
        if (kind == 0) {
            text = spoil(text);
        } else if (kind == 1) {
            text = text.substring(0, random.nextInt(text.length() + 1));
        } else if (kind == 2) {
            text = deep();
        } else if (kind == 3) {
            text = clauses(2) + ";" + deep();
        } else if (kind == 4) {
            text = spoil(deep());
        }
        return text.isEmpty() ? "c" : text.substring(0, Math.min(200, text.length()));
    }

    /** A law without a fault. */
    String writeGood() {
        for (int tries = 0; tries < 1000; tries++) {
            String text = clauses(1 + random.nextInt(9));
            if (random.nextInt(3) > 0) {
                text += yardsClause() + (random.nextBoolean() ? ";m[c+w]/9(t%3>0)" : "");
            }
            if (text.length() <= 200 && PlainModel.faultOrClauses(text) > 0) {
                return text;
            }
        }
        return "c1(1=1)";
    }

    private String clauses(int n) {
        StringBuilder text = new StringBuilder();
        for (int i = 0; i < n; i++) {
            String clause = n > 14 ? "c1(1=1)" : clause();
            if (text.length() + clause.length() < 198) {
                text.append(text.length() > 0 ? ";" : "").append(clause);
            }
        }
        return text.length() == 0 ? "m[c+w]/10(c+w>9)" : text.toString();
    }

    private String clause() {
        String letter = String.valueOf("cwsmyfccm".charAt(random.nextInt(9)));
        return letter + sum(2) + "(" + choice(2) + ")";
    }

    private String yardsClause() {
        int kind = random.nextInt(4);
        if (kind == 0) {
            return ";y0(t%4=1);y" + (50 + random.nextInt(200)) + "+x*9-d*5+t*" + random.nextInt(30) + "(1=1)";
        }
        if (kind == 1) {
            return ";y[t*37+x*11+y*5]%90*9(v<8)";
        }
        return ";y" + random.nextInt(999) + "-d*" + random.nextInt(30) + (kind == 2 ? "(h<60)" : "-c/3(1=1)");
    }

    private String sum(int depth) {
        StringBuilder text = new StringBuilder(term(depth));
        while (random.nextInt(3) == 0) {
            text.append(random.nextBoolean() ? '+' : '-').append(term(depth));
        }
        return text.toString();
    }

    private String term(int depth) {
        StringBuilder text = new StringBuilder(factor(depth));
        while (random.nextInt(4) == 0) {
            text.append("*/%".charAt(random.nextInt(3))).append(factor(depth));
        }
        return text.toString();
    }

    private String factor(int depth) {
        int kind = random.nextInt(10);
        if (kind == 0 && depth > 0 || random.nextInt(60) == 0) {
            return "[" + sum(depth - 1) + "]";
        }
        if (kind < 5) {
            return String.valueOf(random.nextInt(20) == 0 ? random.nextInt(100000) : random.nextInt(25));
        }
        return String.valueOf("hktvcwxyndijlcwhxy".charAt(random.nextInt(18)));
    }

    private String choice(int depth) {
        StringBuilder text = new StringBuilder(part(depth));
        while (random.nextInt(5) == 0) {
            text.append('|').append(part(depth));
        }
        return text.toString();
    }

    private String part(int depth) {
        StringBuilder text = new StringBuilder(piece(depth));
        while (random.nextInt(5) == 0) {
            text.append('&').append(piece(depth));
        }
        return text.toString();
    }

    private String piece(int depth) {
        int kind = random.nextInt(12);
        if (kind == 0) {
            return "!" + piece(depth);
        }
        if (kind == 1 && depth > 0 || random.nextInt(50) == 0) {
            return "(" + choice(depth - 1) + ")";
        }
        if (kind < 5) {
            return "1=1";
        }
        return sum(1) + "<>=".charAt(random.nextInt(3)) + sum(1);
    }

    private String spoil(String text) {
        StringBuilder spoilt = new StringBuilder(text);
        for (int i = 0; i <= random.nextInt(3); i++) {
            int at = random.nextInt(spoilt.length() + 1);
            char sign = random.nextInt(10) == 0 ? (char) random.nextInt(256) : randomSign();
            switch (random.nextInt(3)) {
                case 0 -> spoilt.insert(at, sign);
                case 1 -> spoilt.setCharAt(Math.min(at, spoilt.length() - 1), sign);
                default -> spoilt.insert(at, String.valueOf(sign).repeat(1 + random.nextInt(7)));
            }
        }
        return spoilt.toString();
    }

    /** Open signs in one another, about as many as may be. */
    private String deep() {
        StringBuilder text = new StringBuilder("c");
        StringBuilder closed = new StringBuilder();
        openBrackets(text, closed, random.nextInt(3) == 0 ? 5 + random.nextInt(3) : 0);
        text.append(1).append(closed).append('(');
        closed.setLength(0);
        int pieces = random.nextInt(7);
        for (int i = 0; i < pieces; i++) {
            boolean isNot = random.nextBoolean();
            text.append(isNot ? '!' : '(');
            closed.insert(0, isNot ? "" : ")");
            if (random.nextInt(8) == 0) {
                text.append("!1=2&");
            }
        }
        StringBuilder brackets = new StringBuilder();
        openBrackets(text, brackets, Math.max(0, 4 + random.nextInt(3) - pieces));
        text.append("h").append(brackets).append("=");
        brackets.setLength(0);
        openBrackets(text, brackets, random.nextInt(3));
        text.append("12345").append(random.nextInt(6) == 0 ? "6" : "").append(brackets);
        return text.append(closed).append(')').toString();
    }

    private void openBrackets(StringBuilder text, StringBuilder closed, int n) {
        for (int i = 0; i < n; i++) {
            text.append('[');
            closed.append(']');
        }
    }

    private char randomSign() {
        return SIGNS.charAt(random.nextInt(SIGNS.length()));
    }
}

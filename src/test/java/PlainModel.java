import java.math.BigInteger;
import java.util.ArrayDeque;
import java.util.ArrayList;
import java.util.Arrays;
import java.util.Deque;
import java.util.List;

/**
 * The document once more, written slowly and another way than the class: the law is walked as a text,
 * its faults come from a machine with a stack, odds come from big fractions. ModelTest sets the two
 * against each other.
 */
final class PlainModel {
    static final class State {
        int[][] ground = new int[12][12];
        int[][] sort = new int[12][12];
        int[][] cold = new int[12][12];
        int[][] water = new int[12][12];
        int[] winds = new int[100];
        int step;
        int ran;
        int x = 1;

        State copy() {
            State other = new State();
            for (int i = 0; i < 12; i++) {
                other.ground[i] = ground[i].clone();
                other.sort[i] = sort[i].clone();
                other.cold[i] = cold[i].clone();
                other.water[i] = water[i].clone();
            }
            other.winds = winds.clone();
            other.step = step;
            other.ran = ran;
            other.x = x;
            return other;
        }

        int wind() {
            return step > 99 ? 0 : winds[step];
        }

        int level(int x, int y) {
            return 10 * ground[y][x] + cold[y][x] + (sort[y][x] == 2 ? 30 : 0);
        }
    }

    record Road(int a, int b, int length, int cell) { }

    record Night(int i, int j, int l, int top, int till) { }

    private static final int[][] SIDES = {{0, -1}, {-1, 0}, {1, 0}, {0, 1}};

    State now = new State();
    State kept;
    String[] clauses = {};
    List<Integer> tape = new ArrayList<>();
    Road[] roads = new Road[20];
    List<Night> nights = new ArrayList<>();

    private static boolean in(int n, int low, int high) {
        return low <= n && n <= high;
    }

    boolean ground(int x, int y, int hands, int sort) {
        if (!in(x, 0, 11) || !in(y, 0, 11) || !in(hands, 0, 99) || !in(sort, 0, 4)) {
            return false;
        }
        now.ground[y][x] = hands;
        now.sort[y][x] = sort;
        return true;
    }

    boolean air(int x, int y, int cold, int water) {
        if (!in(x, 0, 11) || !in(y, 0, 11) || !in(cold, 0, 9999) || !in(water, 0, 9999)) {
            return false;
        }
        now.cold[y][x] = cold;
        now.water[y][x] = water;
        return true;
    }

    boolean wind(int step, int n) {
        if (!in(step, 0, 99) || !in(n, 0, 9)) {
            return false;
        }
        now.winds[step] = n;
        return true;
    }

    int feed(int... five) {
        if (tape.size() + 20 > 220) {
            return -1;
        }
        for (int n : five) {
            for (byte b : java.nio.ByteBuffer.allocate(4).putInt(n).array()) {
                tape.add(b & 255);
            }
        }
        return tape.size();
    }

    int law(int n) {
        if (!in(n, 1, 200) || n > tape.size()) {
            return -1;
        }
        StringBuilder read = new StringBuilder();
        for (int i = 0; i < n; i++) {
            read.append((char) (int) tape.get(i));
        }
        tape.clear();
        int answer = faultOrClauses(read.toString());
        if (answer > 0) {
            clauses = read.toString().split(";");
        }
        return answer;
    }

    // ---- faults: what may stand next, with a stack of what is open

    private enum Next { CLAUSE, PIECE, FACTOR, BEHIND_FACTOR, BEHIND_PIECE, BEHIND_CLAUSE }

    static int faultOrClauses(String text) {
        Deque<Character> open = new ArrayDeque<>();
        Next next = Next.CLAUSE;
        char role = 'E';
        int digits = 0;
        int clauses = 0;
        for (int at = 0; at < text.length(); at++) {
            char c = text.charAt(at);
            boolean digit = c >= '0' && c <= '9';
            if (next == Next.BEHIND_FACTOR && digits > 0 && digit) {
                if (digits == 5) {
                    return -2000 - at;
                }
                digits++;
                continue;
            }
            boolean inBracket = !open.isEmpty() && open.peek() == '[';
            if (next == Next.BEHIND_FACTOR && !inBracket && role == 'R' && "&|)".indexOf(c) >= 0) {
                closeNots(open);
                next = Next.BEHIND_PIECE;
            }
            if (next == Next.PIECE && c != '(' && c != '!') {
                role = 'L';
                next = Next.FACTOR;
            }
            switch (next) {
                case CLAUSE:
                    if ("cwsmyf".indexOf(c) < 0) {
                        return -1000 - at;
                    }
                    if (clauses == 14) {
                        return -4000 - at;
                    }
                    clauses++;
                    role = 'E';
                    next = Next.FACTOR;
                    break;
                case PIECE:
                    if (open.size() == 6) {
                        return -5000 - at;
                    }
                    open.push(c);
                    break;
                case FACTOR:
                    digits = digit ? 1 : 0;
                    if (c == '[') {
                        if (open.size() == 6) {
                            return -5000 - at;
                        }
                        open.push(c);
                    } else if (digit || "hktvcwxyndijl".indexOf(c) >= 0) {
                        next = Next.BEHIND_FACTOR;
                    } else {
                        return -1000 - at;
                    }
                    break;
                case BEHIND_FACTOR:
                    digits = 0;
                    if ("+-*/%".indexOf(c) >= 0) {
                        next = Next.FACTOR;
                    } else if (inBracket && c == ']') {
                        open.pop();
                    } else if (!inBracket && role == 'E' && c == '(') {
                        open.push(c);
                        next = Next.PIECE;
                    } else if (!inBracket && role == 'L' && "<>=".indexOf(c) >= 0) {
                        role = 'R';
                        next = Next.FACTOR;
                    } else {
                        return -1000 - at;
                    }
                    break;
                case BEHIND_PIECE:
                    if (c == '&' || c == '|') {
                        next = Next.PIECE;
                    } else if (c == ')') {
                        open.pop();
                        closeNots(open);
                        next = open.isEmpty() ? Next.BEHIND_CLAUSE : Next.BEHIND_PIECE;
                    } else {
                        return -1000 - at;
                    }
                    break;
                default:
                    if (c != ';') {
                        return -1000 - at;
                    }
                    next = Next.CLAUSE;
            }
        }
        return next == Next.BEHIND_CLAUSE ? clauses : -1000 - text.length();
    }

    private static void closeNots(Deque<Character> open) {
        while (!open.isEmpty() && open.peek() == '!') {
            open.pop();
        }
    }

    // ---- the law, walked as a text

    private static final class Refused extends RuntimeException {
        private static final long serialVersionUID = 1;
    }

    private static final class Walk {
        final String s;
        final int[] letters;
        int at;

        Walk(String s, int[] letters) {
            this.s = s;
            this.letters = letters;
        }

        char peek() {
            return at < s.length() ? s.charAt(at) : ' ';
        }

        /** With asked false the signs are only passed. */
        int sum(boolean asked) {
            int value = term(asked);
            while (peek() == '+' || peek() == '-') {
                char op = s.charAt(at++);
                int other = term(asked);
                value = op == '+' ? value + other : value - other;
            }
            return value;
        }

        int term(boolean asked) {
            int value = factor(asked);
            while (peek() == '*' || peek() == '/' || peek() == '%') {
                char op = s.charAt(at++);
                int other = factor(asked);
                if (op == '*') {
                    value *= other;
                } else if (!asked) {
                    value = 0;
                } else if (other == 0) {
                    throw new Refused();
                } else {
                    value = op == '/' ? value / other : value % other;
                }
            }
            return value;
        }

        int factor(boolean asked) {
            char c = s.charAt(at++);
            if (c == '[') {
                int value = sum(asked);
                at++;
                return value;
            }
            if (Character.isDigit(c)) {
                int from = at - 1;
                while (Character.isDigit(peek())) {
                    at++;
                }
                return Integer.parseInt(s.substring(from, at));
            }
            return letters["hktvcwxyndijl".indexOf(c)];
        }

        boolean choice(boolean asked) {
            boolean holds = part(asked);
            while (peek() == '|') {
                at++;
                boolean other = part(asked && !holds);
                holds = holds || other;
            }
            return holds;
        }

        boolean part(boolean asked) {
            boolean holds = piece(asked);
            while (peek() == '&') {
                at++;
                boolean other = piece(asked && holds);
                holds = holds && other;
            }
            return holds;
        }

        boolean piece(boolean asked) {
            if (peek() == '!') {
                at++;
                return !piece(asked);
            }
            if (peek() == '(') {
                at++;
                boolean holds = choice(asked);
                at++;
                return holds;
            }
            int a = sum(asked);
            char op = s.charAt(at++);
            int b = sum(asked);
            return op == '<' ? a < b : op == '>' ? a > b : a == b;
        }
    }

    private int ask(char letter, int most, int[] letters) {
        for (String clause : clauses) {
            if (clause.charAt(0) != letter) {
                continue;
            }
            String worth = clause.substring(1, clause.indexOf('('));
            String condition = clause.substring(clause.indexOf('(') + 1, clause.length() - 1);
            boolean holds;
            try {
                holds = new Walk(condition, letters).choice(true);
            } catch (Refused refused) {
                holds = false;
            }
            if (holds) {
                try {
                    return Math.max(0, Math.min(most, new Walk(worth, letters).sum(true)));
                } catch (Refused refused) {
                    return 0;
                }
            }
        }
        return 0;
    }

    private static int[] lettersAt(State s, int x, int y, int d) {
        int n = 0;
        for (int[] side : SIDES) {
            if (in(x + side[0], 0, 11) && in(y + side[1], 0, 11) && s.sort[y + side[1]][x + side[0]] == 2) {
                n++;
            }
        }
        return new int[] {s.ground[y][x], s.sort[y][x], s.step, s.wind(), s.cold[y][x], s.water[y][x],
            x, y, n, d, 0, 0, 0};
    }

    int mist(State s, int x, int y) {
        return ask('m', 99, lettersAt(s, x, y, 0));
    }

    int top(State s, int x, int y) {
        int mist = mist(s, x, y);
        return mist > 0 ? s.ground[y][x] + mist : -2;
    }

    int yards(State s, int x, int y) {
        return ask('y', 999, lettersAt(s, x, y, mist(s, x, y)));
    }

    // ---- steps

    void step(State s) {
        int[][] cold = new int[12][12];
        int[][] water = new int[12][12];
        for (int y = 0; y < 12; y++) {
            for (int x = 0; x < 12; x++) {
                int[] letters = lettersAt(s, x, y, 0);
                cold[y][x] = Math.min(9999, s.cold[y][x] + ask('c', 99, letters));
                int wet = s.water[y][x] + ask('w', 99, letters) - ask('s', 99, letters);
                water[y][x] = Math.max(0, Math.min(9999, wet));
            }
        }
        s.cold = cold;
        s.water = water;
        int[][] change = new int[12][12];
        for (int y = 0; y < 12; y++) {
            for (int x = 0; x < 12; x++) {
                int toX = -1;
                int toY = -1;
                for (int[] side : SIDES) {
                    int bx = x + side[0];
                    int by = y + side[1];
                    if (in(bx, 0, 11) && in(by, 0, 11) && (toX < 0 || s.level(bx, by) < s.level(toX, toY))) {
                        toX = bx;
                        toY = by;
                    }
                }
                int differ = s.level(x, y) - s.level(toX, toY);
                if (differ > 0) {
                    int runs = Math.min((int) Math.ceil(cold[y][x] / 4.0), differ / 2);
                    change[y][x] -= runs;
                    change[toY][toX] += runs;
                    s.ran += runs;
                }
            }
        }
        for (int y = 0; y < 12; y++) {
            for (int x = 0; x < 12; x++) {
                cold[y][x] = Math.min(9999, cold[y][x] + change[y][x]);
            }
        }
        s.step++;
    }

    int steps(int n) {
        if (!in(n, 1, 60)) {
            return -1;
        }
        int before = now.ran;
        for (int i = 0; i < n; i++) {
            step(now);
        }
        return now.ran - before;
    }

    int cell(int x, int y, int what) {
        if (!in(x, 0, 11) || !in(y, 0, 11)) {
            return -1;
        }
        return switch (what) {
            case 0 -> now.ground[y][x];
            case 1 -> now.sort[y][x];
            case 2 -> now.cold[y][x];
            case 3 -> now.water[y][x];
            case 4 -> mist(now, x, y);
            case 5 -> top(now, x, y);
            case 6 -> yards(now, x, y);
            case 7 -> now.level(x, y);
            default -> -1;
        };
    }

    int sums(int what) {
        int misty = 0;
        int highest = 0;
        for (int cell = 0; cell < 144; cell++) {
            int top = top(now, cell % 12, cell / 12);
            if (top != -2) {
                misty++;
                highest = Math.max(highest, top);
            }
        }
        return switch (what) {
            case 0 -> Arrays.stream(now.cold).flatMapToInt(Arrays::stream).sum();
            case 1 -> Arrays.stream(now.water).flatMapToInt(Arrays::stream).sum();
            case 2 -> now.ran;
            case 3 -> misty;
            case 4 -> highest;
            default -> -1;
        };
    }

    /** All states of a night, behind its first step on. */
    private List<State> passed(State from, int n) {
        List<State> all = new ArrayList<>();
        State s = from.copy();
        for (int i = 0; i < n; i++) {
            step(s);
            all.add(s.copy());
        }
        return all;
    }

    int night(int n, int what) {
        if (!in(n, 1, 60) || !in(what, 0, 4)) {
            return -1;
        }
        int[] answer = {-2, -2, -2, -2, 0};
        for (State s : passed(now, n)) {
            boolean any = false;
            for (int cell = 0; cell < 144; cell++) {
                int top = top(s, cell % 12, cell / 12);
                if (top == -2) {
                    continue;
                }
                any = true;
                if (answer[2] == -2) {
                    answer[2] = cell;
                    answer[3] = s.step;
                }
                if (top > answer[0]) {
                    answer[0] = top;
                    answer[1] = s.step;
                }
            }
            answer[4] += any ? 1 : 0;
        }
        return answer[what];
    }

    int sun(int x, int y, int height, int n) {
        if (!in(x, 0, 11) || !in(y, 0, 11) || !in(n, 1, 60) || !in(height, now.ground[y][x], 198)) {
            return -1;
        }
        int sunny = 0;
        for (State s : passed(now, n)) {
            int top = top(s, x, y);
            sunny += top == -2 || height >= top ? 1 : 0;
        }
        return sunny;
    }

    int band(int n, int f) {
        if (!in(n, 1, 60) || !in(f, 1, 9999)) {
            return -1;
        }
        List<State> all = passed(now, n);
        for (int height = 0; height <= 99; height++) {
            boolean free = true;
            for (State s : all) {
                for (int cell = 0; cell < 144; cell++) {
                    free &= s.ground[cell / 12][cell % 12] < height || s.cold[cell / 12][cell % 12] < f;
                }
            }
            if (free) {
                return height;
            }
        }
        return -2;
    }

    private int[][] coldBehind(int trees, int n) {
        State s = now.copy();
        if (trees >= 0) {
            s.sort[trees / 12][trees % 12] = 2;
        }
        for (int i = 0; i < n; i++) {
            step(s);
        }
        return s.cold;
    }

    int works(int x, int y, int n, int what) {
        if (!in(x, 0, 11) || !in(y, 0, 11) || !in(n, 1, 60) || !in(what, 0, 3) || now.sort[y][x] == 2) {
            return -1;
        }
        int[][] without = coldBehind(-1, n);
        int[][] with = coldBehind(12 * y + x, n);
        int[] answer = {0, 0, -2, 0};
        for (int cell = 0; cell < 144; cell++) {
            int gain = with[cell / 12][cell % 12] - without[cell / 12][cell % 12];
            answer[0] += gain > 0 ? 1 : 0;
            answer[1] += gain < 0 ? 1 : 0;
            if (gain > answer[3]) {
                answer[2] = cell;
                answer[3] = gain;
            }
        }
        return answer[what];
    }

    int dam(int cell, int n, int what) {
        if (!in(cell, 0, 143) || !in(n, 1, 20) || !in(what, 0, 1)) {
            return -1;
        }
        int[] answer = {-1, Integer.MAX_VALUE};
        for (int trees = 0; trees < 144; trees++) {
            if (trees != cell) {
                int cold = coldBehind(trees, n)[cell / 12][cell % 12];
                if (cold < answer[1]) {
                    answer = new int[] {trees, cold};
                }
            }
        }
        return answer[what];
    }

    // ---- roads

    boolean road(int i, int a, int b, int length, int cell) {
        if (!in(i, 0, 19) || !in(a, 0, 9) || !in(b, 0, 9) || a == b || !in(length, 1, 99) || !in(cell, 0, 143)) {
            return false;
        }
        roads[i] = new Road(a, b, length, cell);
        return true;
    }

    int soonest(int from, int to, int minute, int what) {
        if (!in(from, 0, 9) || !in(to, 0, 9) || !in(minute, 0, 299) || !in(what, 0, 1)) {
            return -1;
        }
        List<State> states = new ArrayList<>();
        states.add(now);
        states.addAll(passed(now, 29));
        int[][] yards = new int[30][20];
        for (int s = 0; s < 30; s++) {
            for (int r = 0; r < 20; r++) {
                yards[s][r] = roads[r] == null ? 0 : yards(states.get(s), roads[r].cell % 12, roads[r].cell / 12);
            }
        }
        int best = walk(from, to, minute, what == 0, yards, new Integer[10][301]);
        return best > 300 ? -2 : best;
    }

    /** The soonest by what is best from each node and minute on. */
    private int walk(int at, int to, int minute, boolean waits, int[][] yards, Integer[][] known) {
        if (at == to) {
            return minute;
        }
        if (minute >= 300) {
            return 1000;
        }
        if (known[at][minute] != null) {
            return known[at][minute];
        }
        int best = waits ? walk(at, to, minute + 1, true, yards, known) : 1000;
        for (int r = 0; r < 20; r++) {
            int sight = yards[minute / 10][r];
            if (roads[r] == null || sight == 0 || roads[r].a != at && roads[r].b != at) {
                continue;
            }
            int out = minute + (int) Math.ceil(100.0 * roads[r].length / sight);
            if (out <= 300) {
                int other = roads[r].a == at ? roads[r].b : roads[r].a;
                best = Math.min(best, walk(other, to, out, waits, yards, known));
            }
        }
        known[at][minute] = best;
        return best;
    }

    int edge(int what) {
        if (!in(what, 0, 2)) {
            return -1;
        }
        int[] answer = {-2, -2, -2};
        for (int j = 19; j >= 0; j--) {
            for (int i = j - 1; i >= 0; i--) {
                Road p = roads[i];
                Road q = roads[j];
                if (p == null || q == null || p.a != q.a && p.a != q.b && p.b != q.a && p.b != q.b) {
                    continue;
                }
                int differ = Math.abs(yards(now, p.cell % 12, p.cell / 12) - yards(now, q.cell % 12, q.cell / 12));
                boolean sooner = i < answer[0] || i == answer[0] && j < answer[1];
                if (differ > answer[2] || differ == answer[2] && sooner) {
                    answer = new int[] {i, j, differ};
                }
            }
        }
        return answer[what];
    }

    // ---- nights that were

    int was(int i, int j, int l, int top, int till) {
        boolean good = in(i, 0, 99) && in(j, 0, 99) && in(l, 0, 99) && in(top, 0, 99) && in(till, 0, 999);
        if (!good || nights.size() == 60) {
            return -1;
        }
        nights.add(new Night(i, j, l, top, till));
        return nights.size();
    }

    private int[] bestLine(int number, int missed, int said) {
        int[] best = {Integer.MAX_VALUE, -1};
        for (int line = 0; line <= 100; line++) {
            int cost = 0;
            for (Night night : nights) {
                int n = number == 0 ? night.i : number == 1 ? night.j : night.l;
                cost += night.top > 0 && n < line ? missed : 0;
                cost += night.top == 0 && n >= line ? said : 0;
            }
            if (cost < best[0]) {
                best = new int[] {cost, line};
            }
        }
        return best;
    }

    int line(int number, int missed, int said, int what) {
        if (!in(number, 0, 2) || !in(missed, 0, 999) || !in(said, 0, 999) || !in(what, 0, 1)) {
            return -1;
        }
        return bestLine(number, missed, said)[what];
    }

    int tells(int missed, int said) {
        if (!in(missed, 0, 999) || !in(said, 0, 999)) {
            return -1;
        }
        int a = bestLine(0, missed, said)[0];
        int b = bestLine(1, missed, said)[0];
        int c = bestLine(2, missed, said)[0];
        return a <= b && a <= c ? 0 : b <= c ? 1 : 2;
    }

    int held(int missed, int said) {
        if (!in(missed, 0, 999) || !in(said, 0, 999)) {
            return -1;
        }
        int cost = 0;
        for (Night night : nights) {
            boolean says = ask('f', 1, new int[] {0, 0, 0, 0, 0, 0, 0, 0, 0, 0, night.i, night.j, night.l}) > 0;
            cost += night.top > 0 && !says ? missed : night.top == 0 && says ? said : 0;
        }
        return cost;
    }

    int odds(int i, int j, int l, int width, int what) {
        if (!in(i, 0, 99) || !in(j, 0, 99) || !in(l, 0, 99) || !in(width, 0, 99) || !in(what, 0, 2)) {
            return -1;
        }
        List<Night> alike = new ArrayList<>();
        for (Night n : nights) {
            if (in(n.i, i - width, i + width) && in(n.j, j - width, j + width) && in(n.l, l - width, l + width)) {
                alike.add(n);
            }
        }
        if (alike.isEmpty()) {
            return -2;
        }
        int misty = (int) alike.stream().filter(n -> n.top > 0).count();
        int divisor = BigInteger.valueOf(misty).gcd(BigInteger.valueOf(alike.size())).intValue();
        int highest = alike.stream().mapToInt(n -> n.top).max().getAsInt();
        return what == 2 ? highest : (what == 0 ? misty : alike.size()) / divisor;
    }

    int when(int early, int late, int what) {
        if (!in(early, 0, 99) || !in(late, 0, 99) || !in(what, 0, 1)) {
            return -1;
        }
        int[] best = {-1, Integer.MAX_VALUE};
        for (int minute = 0; minute <= 999; minute++) {
            int cost = 0;
            for (Night n : nights) {
                if (n.top > 0) {
                    cost += Math.max(0, n.till - minute) * early + Math.max(0, minute - n.till) * late;
                }
            }
            if (cost < best[1]) {
                best = new int[] {minute, cost};
            }
        }
        return best[what];
    }

    long lid(int strength, int n, int k, int what) {
        if (!in(strength, 1, 200) || !in(n, 1, 12) || !in(k, 1, 9) || !in(what, 0, 1)) {
            return -1;
        }
        BigInteger all = BigInteger.valueOf(k + 1).pow(n);
        BigInteger broken = waysToBreak(strength, n, k, new BigInteger[n + 1][201]);
        BigInteger divisor = broken.gcd(all);
        return (what == 0 ? broken : all).divide(divisor).longValueExact();
    }

    private static BigInteger waysToBreak(int missing, int n, int k, BigInteger[][] known) {
        if (n == 0) {
            return missing <= 0 ? BigInteger.ONE : BigInteger.ZERO;
        }
        int left = Math.max(0, missing);
        if (known[n][left] == null) {
            BigInteger ways = BigInteger.ZERO;
            for (int push = 0; push <= k; push++) {
                ways = ways.add(waysToBreak(left - push, n - 1, k, known));
            }
            known[n][left] = ways;
        }
        return known[n][left];
    }

    // ---- drawn, kept, undone, told

    boolean seed(int x) {
        if (!in(x, 0, 65535)) {
            return false;
        }
        now.x = x;
        return true;
    }

    int draw(int n) {
        if (!in(n, 1, 60)) {
            return -1;
        }
        int before = now.ran;
        for (int i = 0; i < n; i++) {
            now.x = (int) ((25173L * now.x + 13849L) % 65536L);
            if (now.step <= 99) {
                now.winds[now.step] = now.x % 10;
            }
            step(now);
        }
        return now.ran - before;
    }

    int keep() {
        kept = now.copy();
        return now.step;
    }

    boolean undo() {
        if (kept == null) {
            return false;
        }
        now = kept.copy();
        return true;
    }

    int check(int y, int n) {
        if (!in(y, 0, 11) || !in(n, 0, 12) || tape.size() < 4 * n) {
            return -2;
        }
        List<Integer> bytes = new ArrayList<>(tape);
        tape.clear();
        for (int x = 0; x < n; x++) {
            long number = 0;
            for (int i = 0; i < 4; i++) {
                number = number * 256 + bytes.get(4 * x + i);
            }
            if ((int) number != now.cold[y][x]) {
                return x;
            }
        }
        return -1;
    }

    int count(int what) {
        int told = 0;
        for (int i = 0; i < 20; i++) {
            told += roads[i] == null ? 0 : 1 << i;
        }
        return switch (what) {
            case 0 -> now.step;
            case 1 -> clauses.length;
            case 2 -> tape.size();
            case 3 -> nights.size();
            case 4 -> told;
            case 5 -> now.x;
            default -> what < 100 ? -1 : what > 199 ? 0 : now.winds[what - 100];
        };
    }
}

import java.util.ArrayList;
import java.util.List;

/**
 * The document once more, written with objects, lists and trees and without a thought for room or speed,
 * so that it shares no way of reckoning with the program.
 */
final class Mirror implements Cloneable {
    static final class Group implements Cloneable {
        int number, size, says, sort, waited, passed;
        Group copy() {
            try {
                return (Group) clone();
            } catch (CloneNotSupportedException e) {
                throw new IllegalStateException(e);
            }
        }
    }

    static final class Fault extends RuntimeException {
        final int what, place;
        Fault(int what, int place) {
            super(null, null, false, false);
            this.what = what;
            this.place = place;
        }
    }

    /** A part of a text: a number, a fact by its word, or a sign over parts. */
    static final class Tree {
        final String sign;
        final int number;
        final Tree[] under;
        Tree(String sign, int number, Tree... under) {
            this.sign = sign;
            this.number = number;
            this.under = under;
        }
    }

    static final class LawLine {
        Tree worth, when;
    }

    static final class Seat {
        Group group;
        int number, sits, sort, waited, line, place;
    }

    int state, seats = 4, seconds = 6, halt = 40, falls, bound, rule;
    int[] seen = {9, 9, 9, 9, 9, 9};
    int[] parting = new int[9];
    int[][] comers = new int[8][4];
    List<List<Group>> lines = new ArrayList<>();
    List<List<LawLine>> laws = new ArrayList<>();
    int chairs, empty, people, time, stops, found, away, came;
    int[] gone = new int[9], wait = new int[9], longest = new int[9];
    int[] heap = new int[9];
    List<int[]> past = new ArrayList<>();
    List<Seat> lastSeats;
    int lastLeft;
    int whichSet = -1;

    StringBuilder tape = new StringBuilder();
    int fault, faultPlace = -1;
    List<int[]> picked = new ArrayList<>();
    Mirror image;

    Mirror() {
        for (int i = 0; i < 6; i++) lines.add(new ArrayList<>());
        for (int i = 0; i < 5; i++) laws.add(new ArrayList<>());
    }

    Mirror copy() {
        try {
            Mirror m = (Mirror) clone();
            m.seen = seen.clone();
            m.parting = parting.clone();
            m.comers = new int[8][];
            for (int i = 0; i < 8; i++) m.comers[i] = comers[i].clone();
            m.lines = new ArrayList<>();
            for (List<Group> line : lines) {
                List<Group> l = new ArrayList<>();
                for (Group g : line) l.add(g.copy());
                m.lines.add(l);
            }
            m.laws = new ArrayList<>(laws);
            m.gone = gone.clone();
            m.wait = wait.clone();
            m.longest = longest.clone();
            m.heap = heap.clone();
            m.past = new ArrayList<>(past);
            m.picked = new ArrayList<>();
            return m;
        } catch (CloneNotSupportedException e) {
            throw new IllegalStateException(e);
        }
    }

    // ---- texts

    private String text;
    private int pos;
    private boolean forLines;
    private int open;

    private int startOfToken() {
        while (pos < text.length() && (text.charAt(pos) == ' ' || text.charAt(pos) == '\n')) pos++;
        return pos;
    }

    private static boolean letter(char c) {
        return "abcdefghijklmnopqrstuvwxyzABCDEFGHIJKLMNOPQRSTUVWXYZ".indexOf(c) >= 0;
    }

    private static boolean digit(char c) {
        return "0123456789".indexOf(c) >= 0;
    }

    private String peek() {
        int from = startOfToken();
        if (from == text.length()) return "";
        int to = from + 1;
        if (letter(text.charAt(from))) while (to < text.length() && letter(text.charAt(to))) to++;
        else if (digit(text.charAt(from))) while (to < text.length() && digit(text.charAt(to))) to++;
        return text.substring(from, to);
    }

    private void next() {
        String token = peek();
        pos += token.length();
    }

    private Fault at(int what) {
        return new Fault(what, startOfToken());
    }

    private void must(String token) {
        if (!peek().equals(token)) throw at(1);
        next();
    }

    private int number() {
        String token = peek();
        if (token.isEmpty() || !digit(token.charAt(0)) || token.length() > 4) throw at(1);
        return Integer.parseInt(token);
    }

    private List<LawLine> parse() {
        List<LawLine> law = new ArrayList<>();
        while (!peek().isEmpty()) {
            LawLine line = new LawLine();
            String keyword = forLines ? "line" : "take";
            if (!peek().equals(keyword)) throw at(1);
            if (law.size() == 16) throw at(3);
            next();
            if (forLines) {
                int n = number();
                if (n > 5) throw at(2);
                line.worth = new Tree("number", n);
                next();
                must("when");
                line.when = parseB();
            } else {
                line.worth = parseE();
                if (peek().equals("when")) {
                    next();
                    line.when = parseB();
                }
            }
            must(";");
            law.add(line);
        }
        return law;
    }

    private Tree parseB() {
        Tree t = parseA();
        while (peek().equals("or")) {
            next();
            t = new Tree("or", 0, t, parseA());
        }
        return t;
    }

    private Tree parseA() {
        Tree t = parseC();
        while (peek().equals("and")) {
            next();
            t = new Tree("and", 0, t, parseC());
        }
        return t;
    }

    private Tree parseC() {
        String token = peek();
        if (token.equals("not") || token.equals("(")) {
            if (open == 8) throw at(3);
            open++;
            next();
            Tree t;
            if (token.equals("not")) {
                t = new Tree("not", 0, parseC());
            } else {
                t = parseB();
                must(")");
            }
            open--;
            return t;
        }
        Tree a = parseE();
        String sign = peek();
        if (!sign.equals("<") && !sign.equals("=") && !sign.equals(">")) throw at(1);
        next();
        return new Tree(sign, 0, a, parseE());
    }

    private Tree parseE() {
        Tree t = parseT();
        while (peek().equals("+") || peek().equals("-")) {
            String sign = peek();
            next();
            t = new Tree(sign, 0, t, parseT());
        }
        return t;
    }

    private Tree parseT() {
        Tree t = parseU();
        while (true) {
            if (peek().equals("*")) {
                next();
                t = new Tree("*", 0, t, parseU());
            } else if (peek().equals("/")) {
                next();
                int by = number();
                if (by == 0) throw at(2);
                next();
                t = new Tree("/", 0, t, new Tree("number", by));
            } else {
                return t;
            }
        }
    }

    private Tree parseU() {
        String token = peek();
        List<String> words = forLines
            ? List.of("size", "sort", "short", "first")
            : List.of("size", "left", "place", "line", "passed", "waited", "sort", "taken", "behind");
        if (words.contains(token)) {
            next();
            return new Tree(token, 0);
        }
        int n = number();
        next();
        return new Tree("number", n);
    }

    interface Facts {
        int of(String word);
    }

    private static int reckon(Tree t, Facts facts) {
        int a = t.under.length > 0 ? reckon(t.under[0], facts) : 0;
        int b = t.under.length > 1 ? reckon(t.under[1], facts) : 0;
        switch (t.sign) {
            case "number": return t.number;
            case "+": return a + b;
            case "-": return a - b;
            case "*": return a * b;
            case "/": return a / b;
            case "<": return a < b ? 1 : 0;
            case "=": return a == b ? 1 : 0;
            case ">": return a > b ? 1 : 0;
            case "not": return a == 1 ? 0 : 1;
            case "and": return a == 1 && b == 1 ? 1 : 0;
            case "or": return a == 1 || b == 1 ? 1 : 0;
            default: return facts.of(t.sign);
        }
    }

    private static int tell(List<LawLine> law, Facts facts) {
        for (LawLine line : law) {
            if (line.when == null || reckon(line.when, facts) == 1) return reckon(line.worth, facts);
        }
        return 0;
    }

    private int worth(int line, int place, int left, int taken) {
        Group g = lines.get(line).get(place);
        return tell(laws.get(rule), word -> {
            switch (word) {
                case "size": return g.says;
                case "left": return left;
                case "place": return place;
                case "line": return line;
                case "passed": return g.passed;
                case "waited": return g.waited;
                case "sort": return g.sort;
                case "taken": return taken;
                default: return lines.get(line).size() - 1 - place;
            }
        });
    }

    // ---- what happens

    private int draw(int m) {
        state = 1664525 * state + 1013904223;
        return (int) ((state & 0xffffffffL) / 256 % m);
    }

    private int arrive(int size, int says, int sort) {
        Group g = new Group();
        g.number = came++;
        g.size = size;
        g.says = says;
        g.sort = sort;
        int to;
        if (whichSet >= 0) {
            to = says <= 4 && (whichSet & new int[] {0, 1, 2, 4, 8}[says]) != 0 ? 1 : 0;
        } else {
            to = tell(laws.get(4), word -> {
                switch (word) {
                    case "size": return says;
                    case "sort": return sort;
                    case "first": return lines.get(0).size();
                    default:
                        int fewest = 40;
                        for (List<Group> l : lines) fewest = Math.min(fewest, l.size());
                        for (int i = 0; i < 6; i++) if (lines.get(i).size() == fewest) return i;
                        throw new IllegalStateException();
                }
            });
        }
        if (lines.get(to).size() == 40) {
            away++;
            return -1;
        }
        lines.get(to).add(g);
        return to;
    }

    private List<Seat> sitting;
    private List<Seat> outs;
    private Seat parted;
    private int left;

    private boolean isSeen(int line, int place) {
        return place < lines.get(line).size() && place < seen[line];
    }

    private boolean isIn(List<Seat> list, Group g) {
        for (Seat s : list) if (s.group == g) return true;
        return false;
    }

    private boolean anyOf(int sort) {
        for (Seat s : sitting) if (s.sort == sort) return true;
        return false;
    }

    private boolean anyOther(int sort) {
        for (Seat s : sitting) if (s.sort != sort) return true;
        return false;
    }

    private boolean fits(Group g) {
        if (isIn(sitting, g) || isIn(outs, g) || g.says > left) return false;
        if (g.sort == 1 && !anyOther(1)) return false;
        if (g.sort == 2 && !sitting.isEmpty()) return false;
        return !anyOf(2);
    }

    private Seat seat(int line, int place, int sits) {
        Group g = lines.get(line).get(place);
        Seat s = new Seat();
        s.group = g;
        s.number = g.number;
        s.sits = sits;
        s.sort = g.sort;
        s.waited = g.waited;
        s.line = line;
        s.place = place;
        return s;
    }

    private void fill() {
        sitting = new ArrayList<>();
        outs = new ArrayList<>();
        parted = null;
        left = seats;
        while (true) {
            int[] best = null;
            int most = 0;
            if (bound > 0) {
                for (int l = 0; l < 6; l++) for (int p = 0; isSeen(l, p); p++) {
                    Group g = lines.get(l).get(p);
                    if (fits(g) && g.passed >= bound && (best == null || g.passed > most)) {
                        best = new int[] {l, p};
                        most = g.passed;
                    }
                }
            }
            if (best == null) {
                for (int l = 0; l < 6; l++) for (int p = 0; isSeen(l, p); p++) {
                    if (!fits(lines.get(l).get(p))) continue;
                    int w = worth(l, p, left, sitting.size());
                    if (w > 0 && (best == null || w > most)) {
                        best = new int[] {l, p};
                        most = w;
                    }
                }
            }
            if (best == null) break;
            Group g = lines.get(best[0]).get(best[1]);
            Seat s = seat(best[0], best[1], g.size);
            if (g.size > left) {
                found++;
                outs.add(s);
            } else {
                sitting.add(s);
                left -= g.size;
            }
        }
        for (int l = 0; l < 6 && parted == null && !anyOf(2); l++) for (int p = 0; isSeen(l, p) && parted == null; p++) {
            Group g = lines.get(l).get(p);
            if (g.sort != 0 || isIn(sitting, g) || isIn(outs, g) || g.says != g.size || g.size <= left) continue;
            if (parting[g.size] == 0 || worth(l, p, left, sitting.size()) <= 0) continue;
            int one = parting[g.size], two = g.size - one;
            int sits = 0;
            if (one <= left) sits = one;
            if (two <= left && two > sits) sits = two;
            if (sits > 0) parted = seat(l, p, sits);
        }
        if (parted != null) {
            sitting.add(parted);
            left -= parted.sits;
        }
    }

    private int go() {
        int sum = 0;
        empty += left;
        for (Seat s : sitting) {
            sum += s.sits;
            gone[s.sits]++;
            wait[s.sits] += s.waited;
            if (s.waited > longest[s.sits]) longest[s.sits] = s.waited;
        }
        people += sum;
        List<List<Group>> after = new ArrayList<>();
        for (int l = 0; l < 6; l++) {
            List<Group> stay = new ArrayList<>();
            for (int p = 0; p < lines.get(l).size(); p++) {
                Group g = lines.get(l).get(p);
                boolean rest = parted != null && parted.group == g;
                if (isIn(outs, g) || isIn(sitting, g) && !rest) continue;
                g.waited++;
                for (Seat s : sitting) {
                    if (s.line == l && s.place > p) {
                        g.passed++;
                        break;
                    }
                }
                if (rest) {
                    g.size -= parted.sits;
                    g.says = g.size;
                }
                stay.add(g);
            }
            after.add(stay);
        }
        lines = after;
        for (Seat s : outs) {
            s.group.says = s.group.size;
            if (lines.get(0).size() == 40) away++;
            else lines.get(0).add(s.group);
        }
        chairs++;
        time += seconds;
        if (falls > 0 && draw(1000) < falls) {
            time += halt;
            stops++;
        }
        lastSeats = sitting;
        lastLeft = left;
        past.add(0, new int[] {left, sitting.size(), time});
        return sum;
    }

    private int ride() {
        fill();
        return go();
    }

    private int turns(int n) {
        int sum = 0;
        for (int i = 0; i < n; i++) {
            for (int[] c : comers) if (c[3] > 0 && draw(1000) < c[3]) arrive(c[0], c[1], c[2]);
            sum += ride();
        }
        return sum;
    }

    // ---- the face

    int state(int v) {
        int was = state;
        state = v;
        return was;
    }

    boolean set(int what, int v) {
        switch (what) {
            case 0:
                if (v < 2 || v > 8) return false;
                seats = v;
                picked.clear();
                return true;
            case 1:
                if (v < 1 || v > 99) return false;
                seconds = v;
                return true;
            case 2:
                if (v < 0 || v > 999) return false;
                halt = v;
                return true;
            case 3:
                if (v < 0 || v > 1000) return false;
                falls = v;
                return true;
            case 4:
                if (v < 0 || v > 99) return false;
                bound = v;
                return true;
            case 5:
                if (v < 0 || v > 3) return false;
                rule = v;
                return true;
            default:
                return false;
        }
    }

    private static boolean isLine(int line) {
        return line >= 0 && line <= 5;
    }

    boolean seen(int line, int n) {
        if (!isLine(line) || n < 1 || n > 24) return false;
        seen[line] = n;
        return true;
    }

    boolean parts(int size, int part) {
        if (size < 2 || size > 8 || part < 0 || part > size - 1) return false;
        parting[size] = part;
        return true;
    }

    private static boolean canBe(int size, int says, int sort) {
        return 1 <= size && size <= 8 && 1 <= says && says <= size && 0 <= sort && sort <= 3;
    }

    boolean comer(int k, int size, int says, int sort, int chance) {
        if (k < 0 || k > 7 || !canBe(size, says, sort) || chance < 0 || chance > 1000) return false;
        comers[k] = new int[] {size, says, sort, chance};
        return true;
    }

    int feed(int a, int b, int c, int d, int e) {
        if (tape.length() + 20 > 400) return -1;
        for (int n : new int[] {a, b, c, d, e}) {
            long big = n & 0xffffffffL;
            tape.append((char) (big / 16777216)).append((char) (big / 65536 % 256));
            tape.append((char) (big / 256 % 256)).append((char) (big % 256));
        }
        return tape.length();
    }

    boolean end(int n) {
        if (n < 0 || n > tape.length()) return false;
        tape.setLength(n);
        return true;
    }

    int text(int k) {
        text = tape.toString();
        tape.setLength(0);
        fault = 0;
        faultPlace = -1;
        if (k < 0 || k > 4) return -1;
        pos = 0;
        open = 0;
        forLines = k == 4;
        try {
            List<LawLine> law = parse();
            laws.set(k, law);
            return law.size();
        } catch (Fault f) {
            fault = f.what;
            faultPlace = f.place;
            return -1;
        }
    }

    int fault(int what) {
        return what == 0 ? fault : what == 1 ? faultPlace : -1;
    }

    int come(int size, int says, int sort) {
        return canBe(size, says, sort) ? arrive(size, says, sort) : -2;
    }

    int group(int line, int place, int what) {
        if (!isLine(line) || place < 0 || place > 39 || what < 0 || what > 6) return -1000000;
        if (place >= lines.get(line).size()) return -1;
        Group g = lines.get(line).get(place);
        int[] told = {g.number, g.size, g.says, g.sort, g.waited, g.passed, worth(line, place, seats, 0)};
        return told[what];
    }

    int line(int line, int what) {
        if (!isLine(line) || what < 0 || what > 1) return -1;
        int sum = 0;
        for (Group g : lines.get(line)) sum += g.size;
        return what == 0 ? lines.get(line).size() : sum;
    }

    int pick(int line, int place) {
        if (!isLine(line) || place < 0 || place >= lines.get(line).size()) return 1;
        Group g = lines.get(line).get(place);
        int room = seats;
        boolean dear = false, other = false;
        for (int[] p : picked) {
            if (p[0] == line && p[1] == place) return 1;
            Group h = lines.get(p[0]).get(p[1]);
            room -= h.size;
            dear |= h.sort == 2;
            other |= h.sort != 1;
        }
        if (place >= seen[line]) return 2;
        if (g.size > room) return 3;
        if (g.sort == 1 && !other) return 4;
        if (dear || g.sort == 2 && !picked.isEmpty()) return 5;
        picked.add(new int[] {line, place});
        return 0;
    }

    int send() {
        sitting = new ArrayList<>();
        outs = new ArrayList<>();
        parted = null;
        left = seats;
        for (int[] p : picked) {
            Seat s = seat(p[0], p[1], lines.get(p[0]).get(p[1]).size);
            sitting.add(s);
            left -= s.sits;
        }
        picked.clear();
        return go();
    }

    int chair() {
        picked.clear();
        return ride();
    }

    int run(int n) {
        if (n < 1 || n > 60) return -1;
        picked.clear();
        return turns(n);
    }

    int last(int what) {
        if (lastSeats == null) return -1;
        if (what == 0) return lastSeats.size();
        if (what == 1) return lastLeft;
        for (int i = 0; i < lastSeats.size(); i++) {
            if (what == 10 + i) return lastSeats.get(i).number;
            if (what == 20 + i) return lastSeats.get(i).sits;
        }
        return -1;
    }

    int count(int what) {
        int[] plain = {chairs, empty, people, time, stops, found, away};
        if (what >= 0 && what <= 6) return plain[what];
        for (int k = 1; k <= 8; k++) {
            if (what == 10 + k) return gone[k];
            if (what == 20 + k) return wait[k];
            if (what == 30 + k) return longest[k];
            if (what == 40 + k) return gone[k] == 0 ? -1 : 100 * wait[k] / gone[k];
        }
        return -1;
    }

    /** All choices one by one, the first group in it or not, the sooner found the better. */
    private int bestFill;
    private List<Integer> bestChoice;
    private int lastOther;

    private void choose(List<int[]> groups, int i, int sum, int kids, int others, List<Integer> chosen) {
        if (kids > 0 && others == 0 && i > lastOther) return;
        if (i == groups.size()) {
            if ((kids == 0 || others > 0) && sum > bestFill) {
                bestFill = sum;
                bestChoice = new ArrayList<>(chosen);
            }
            return;
        }
        int[] g = groups.get(i);
        if (sum + g[1] <= seats) {
            chosen.add(g[0]);
            choose(groups, i + 1, sum + g[1], kids + (g[2] == 1 ? 1 : 0), others + (g[2] == 1 ? 0 : 1), chosen);
            chosen.remove(chosen.size() - 1);
        }
        if (bestFill < seats) choose(groups, i + 1, sum, kids, others, chosen);
    }

    private void best() {
        List<int[]> groups = new ArrayList<>();
        for (int l = 0; l < 6; l++) for (int p = 0; isSeen(l, p); p++) {
            Group g = lines.get(l).get(p);
            if (g.sort != 2) groups.add(new int[] {100 * l + p, g.size, g.sort});
        }
        bestFill = -1;
        lastOther = -1;
        for (int i = 0; i < groups.size(); i++) if (groups.get(i)[2] != 1) lastOther = i;
        choose(groups, 0, 0, 0, 0, new ArrayList<>());
    }

    int best(int what) {
        best();
        if (what == 0) return bestFill;
        if (what == 1) return bestChoice.size();
        return what >= 10 && what < 10 + bestChoice.size() ? bestChoice.get(what - 10) : -1;
    }

    int look(int line) {
        if (!isLine(line) || seen[line] == 24) return -1;
        best();
        int before = bestFill;
        seen[line]++;
        best();
        seen[line]--;
        return bestFill - before;
    }

    boolean heap(int size, int n) {
        if (size < 1 || size > 8 || n < 0 || n > 9) return false;
        int was = heap[size], all = 0;
        heap[size] = n;
        for (int c : heap) all += c;
        if (all > 12) {
            heap[size] = was;
            return false;
        }
        return true;
    }

    /** Whether the groups (greatest first) from the i-th on go into so many chairs. */
    private static boolean pack(List<Integer> groups, int i, int[] rooms) {
        if (i == groups.size()) return true;
        for (int c = 0; c < rooms.length; c++) {
            boolean tried = false;
            for (int d = 0; d < c; d++) tried |= rooms[d] == rooms[c];
            if (tried || rooms[c] < groups.get(i)) continue;
            rooms[c] -= groups.get(i);
            boolean fits = pack(groups, i + 1, rooms);
            rooms[c] += groups.get(i);
            if (fits) return true;
        }
        return false;
    }

    private static boolean packs(int[] counts, int seats, int chairs) {
        List<Integer> groups = new ArrayList<>();
        int sum = 0;
        for (int k = 8; k >= 1; k--) for (int i = 0; i < counts[k]; i++) {
            groups.add(k);
            sum += k;
        }
        if (sum > chairs * seats) return false;
        int[] rooms = new int[chairs];
        java.util.Arrays.fill(rooms, seats);
        return pack(groups, 0, rooms);
    }

    private static int[] firstChair(int[] counts, int[] taken, int size, int room, int seats, int chairs, int greatest) {
        if (size == 0) {
            if (taken[greatest] == 0) return null;
            int[] rest = new int[9];
            for (int k = 1; k <= 8; k++) rest[k] = counts[k] - taken[k];
            return packs(rest, seats, chairs - 1) ? taken.clone() : null;
        }
        for (int n = Math.min(counts[size], room / size); n >= 0; n--) {
            taken[size] = n;
            int[] answer = firstChair(counts, taken, size - 1, room - n * size, seats, chairs, greatest);
            if (answer != null) return answer;
        }
        taken[size] = 0;
        return null;
    }

    int fewest(int what) {
        if (what < 0 || what > 8) return -1;
        int greatest = 0;
        for (int k = 1; k <= 8; k++) if (heap[k] > 0) greatest = k;
        if (greatest > seats) return -1;
        int chairs = 0;
        while (!packs(heap, seats, chairs)) chairs++;
        if (what == 0 || chairs == 0) return chairs;
        return firstChair(heap, new int[9], 8, seats, seats, chairs, greatest)[what];
    }

    private int sum(int[] row) {
        int all = 0;
        for (int v : row) all += v;
        return all;
    }

    int thought(int rule, int bound, int seats, int n, int what) {
        if (rule < 0 || rule > 3 || bound < 0 || bound > 99 || seats < 2 || seats > 8 || n < 1 || n > 40) return -1;
        Mirror m = copy();
        m.rule = rule;
        m.bound = bound;
        m.seats = seats;
        m.turns(n);
        switch (what) {
            case 0: return m.empty - empty;
            case 1: return m.people - people;
            case 2: return sum(m.wait) - sum(wait);
            case 3: return m.away - away;
            case 4: return m.found - found;
            case 5:
                int most = 0;
                for (int v : m.longest) most = Math.max(most, v);
                return most;
            default: return -1;
        }
    }

    int price(int bound, int n) {
        if (bound < 0 || bound > 99 || n < 1 || n > 40) return -1000000;
        return thought(rule, bound, seats, n, 0) - thought(rule, 0, seats, n, 0);
    }

    private static int till(Mirror m, int number) {
        for (int c = 1; c <= 40; c++) {
            int before = m.away;
            m.ride();
            boolean stands = false;
            for (List<Group> l : m.lines) for (Group g : l) stands |= g.number == number;
            if (stands) continue;
            for (Seat s : m.sitting) if (s.number == number) return c;
            if (m.away == before) throw new IllegalStateException("neither sat nor went away");
            return -1;
        }
        return -1;
    }

    int till(int line, int place) {
        if (!isLine(line) || place < 0 || place >= lines.get(line).size()) return -1;
        return till(copy(), lines.get(line).get(place).number);
    }

    int together(int line, int place, int line2, int place2, int what) {
        if (!isLine(line) || place < 0 || place >= lines.get(line).size()) return -2;
        if (!isLine(line2) || place2 < 0 || place2 >= lines.get(line2).size()) return -2;
        if (line == line2 && place == place2 || what < 0 || what > 1) return -2;
        Group a = lines.get(line).get(place), b = lines.get(line2).get(place2);
        if (a.sort != 0 || b.sort != 0 || a.says != a.size || b.says != b.size || a.size + b.size > 8) return -2;
        Mirror m = copy();
        Group both = m.lines.get(line2).get(place2);
        both.size = a.size + b.size;
        both.says = both.size;
        m.lines.get(line).remove(place);
        int c = till(m, b.number);
        if (what == 0) return c;
        int one = till(line, place), two = till(line2, place2);
        if (c < 0 || one < 0 || two < 0) return 0;
        return c <= one || c <= two ? 1 : 0;
    }

    int needed(int n) {
        if (n < 1 || n > 40) return -1;
        Mirror m = copy();
        int sum = 0;
        for (int i = 0; i < n; i++) if (m.ride() > 0) sum += m.lastLeft;
        return sum;
    }

    int past(int i, int what) {
        if (i < 0 || i > 59 || i >= past.size() || what < 0 || what > 2) return -1;
        return past.get(i)[what];
    }

    int which(int n, int what) {
        if (n < 1 || n > 20 || what < 0 || what > 2) return -1;
        int[] best = null;
        for (int set = 15; set >= 0; set--) {
            Mirror m = copy();
            m.whichSet = set;
            m.turns(n);
            int[] now = {set, m.empty - empty, sum(m.wait) - sum(wait)};
            if (best == null || now[1] < best[1] || now[1] == best[1] && now[2] <= best[2]) best = now;
        }
        return best[what];
    }

    int folded(int line, int w, int place) {
        if (!isLine(line) || w < 1 || w > 40 || place < -1 || place >= lines.get(line).size()) return -1;
        List<Integer> rows = new ArrayList<>();
        for (int i = 0; i < lines.get(line).size(); i++) {
            int size = lines.get(line).get(i).size;
            if (!rows.isEmpty() && rows.get(rows.size() - 1) + size <= w) {
                rows.set(rows.size() - 1, rows.get(rows.size() - 1) + size);
                if (i == place) return rows.size() - 1;
                continue;
            }
            if (i == place) return rows.size();
            if (size <= w) {
                rows.add(size);
            } else {
                for (int there = 0; there < size; there += w) rows.add(1000);
            }
        }
        return rows.size();
    }

    boolean image(boolean taken) {
        if (taken) {
            image = copy();
            return true;
        }
        if (image == null) return false;
        Mirror back = image.copy();
        state = back.state;
        seats = back.seats;
        seconds = back.seconds;
        halt = back.halt;
        falls = back.falls;
        bound = back.bound;
        rule = back.rule;
        seen = back.seen;
        parting = back.parting;
        comers = back.comers;
        lines = back.lines;
        laws = back.laws;
        chairs = back.chairs;
        empty = back.empty;
        people = back.people;
        time = back.time;
        stops = back.stops;
        found = back.found;
        away = back.away;
        came = back.came;
        gone = back.gone;
        wait = back.wait;
        longest = back.longest;
        heap = back.heap;
        past = back.past;
        lastSeats = back.lastSeats;
        lastLeft = back.lastLeft;
        picked.clear();
        return true;
    }

    int told(int what) {
        int[] told = {seats, seconds, halt, falls, bound, rule, picked.size(), came, state};
        return what >= 0 && what < told.length ? told[what] : -1;
    }
}

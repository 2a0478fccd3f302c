import java.util.Random;

/** Random runs of calls, each answered by the program and by the Mirror. Arguments: how many runs, the first seed. */
public final class MirrorTest {
    private static final String[] WORDS = {"size", "left", "place", "line", "passed", "waited", "sort", "taken", "behind"};
    private static final String[] LINE_WORDS = {"size", "sort", "short", "first"};

    private final Random r;
    private final SinglesUp x = new SinglesUp();
    private final Mirror m = new Mirror();
    private final Due due;
    private final long seed;
    private final boolean wild;
    private int calls;

    private MirrorTest(long seed, Due due) {
        this.seed = seed;
        this.due = due;
        r = new Random(seed);
        wild = r.nextInt(4) == 0;
    }

    public static void main(String[] args) {
        int runs = args.length > 0 ? Integer.parseInt(args[0]) : 600;
        long first = args.length > 1 ? Long.parseLong(args[1]) : 1;
        Due due = new Due();
        for (int i = 0; i < runs; i++) {
            new MirrorTest(first + i, due).play();
        }
        due.end("MirrorTest");
    }

    private void same(String call, long want, long got) {
        calls++;
        due.is("seed " + seed + ", call " + calls + ": " + call, want, got);
    }

    private void same(String call, boolean want, boolean got) {
        same(call, want ? 1L : 0L, got ? 1L : 0L);
    }

    // ---- numbers

    private int in(int least, int most) {
        return least + r.nextInt(most - least + 1);
    }

    /** Mostly within the bounds, sometimes at or beyond them. */
    private int near(int least, int most) {
        int k = r.nextInt(wild ? 10 : 60);
        if (k == 0) return least - 1;
        if (k == 1) return most + 1;
        if (k == 2) return r.nextInt();
        if (k == 3) return r.nextBoolean() ? least : most;
        return in(least, most);
    }

    private int aSize() {
        return r.nextInt(4) > 0 ? near(1, 4) : near(1, 8);
    }

    private int says(int size) {
        return size < 1 || size > 8 || r.nextInt(3) > 0 ? size : near(1, size);
    }

    private int aSort() {
        return r.nextInt(2) == 0 ? 0 : near(0, 3);
    }

    private int aLine() {
        return r.nextInt(2) == 0 ? 0 : near(0, 5);
    }

    private int aPlace() {
        return r.nextInt(3) > 0 ? near(0, 4) : near(0, 39);
    }

    /** LINE and place of one that stands there, if any does in the LINE that is found first. */
    private int[] aStanding() {
        int from = r.nextInt(6);
        for (int i = 0; i < 6; i++) {
            int line = (from + i) % 6;
            int count = m.line(line, 0);
            if (count > 0) return new int[] {line, r.nextInt(count)};
        }
        return new int[] {aLine(), aPlace()};
    }

    // ---- texts

    private String unit(boolean lines) {
        if (r.nextInt(3) == 0) return "" + r.nextInt(r.nextInt(5) == 0 ? 10000 : 12);
        String[] words = lines ? LINE_WORDS : WORDS;
        return words[r.nextInt(words.length)];
    }

    private String blank() {
        int k = r.nextInt(12);
        return k == 0 ? "\n" : k < 4 ? " " : "";
    }

    private String sum(boolean lines) {
        StringBuilder s = new StringBuilder(unit(lines));
        while (r.nextInt(2) == 0 && s.length() < 40) {
            int k = r.nextInt(5);
            s.append(blank());
            if (k == 0) s.append("/").append(blank()).append(in(1, 9));
            else s.append("+-**".charAt(k - 1)).append(blank()).append(unit(lines));
        }
        return s.toString();
    }

    private String test(boolean lines, int deep) {
        int k = r.nextInt(5);
        if (deep > 0 && k == 0) return "not " + test(lines, deep - 1);
        if (deep > 0 && k == 1) return "(" + either(lines, deep - 1) + ")";
        return sum(lines) + blank() + "<=>".charAt(r.nextInt(3)) + blank() + sum(lines);
    }

    private String either(boolean lines, int deep) {
        StringBuilder s = new StringBuilder(test(lines, deep));
        while (r.nextInt(3) == 0 && s.length() < 80) {
            s.append(r.nextBoolean() ? " or " : " and ").append(test(lines, deep));
        }
        return s.toString();
    }

    private String aLaw(boolean lines) {
        StringBuilder s = new StringBuilder();
        int count = r.nextInt(4);
        for (int i = 0; i < count; i++) {
            if (lines) {
                s.append("line ").append(in(0, 5)).append(" when ").append(either(true, 3));
            } else if (r.nextInt(3) == 0) {
                s.append("take ").append(sum(false));
            } else {
                s.append("take ").append(sum(false)).append(" when ").append(either(false, 3));
            }
            s.append(blank()).append(";").append(blank());
        }
        if (!lines && r.nextInt(3) > 0) s.append("take ").append(in(1, 60)).append("-place;");
        if (r.nextInt(12) == 0) return deepLaw(lines);
        if (r.nextInt(12) == 0) return longLaw(lines);
        return r.nextInt(5) == 0 ? spoiled(s) : s.toString();
    }

    private String deepLaw(boolean lines) {
        StringBuilder s = new StringBuilder(lines ? "line 3 when " : "take 7-place when ");
        int deep = in(6, 10);
        int brackets = 0;
        for (int i = 0; i < deep; i++) {
            if (r.nextBoolean()) {
                s.append("not ");
            } else {
                s.append("(");
                brackets++;
            }
        }
        s.append("size<3");
        for (int i = 0; i < brackets; i++) {
            s.append(r.nextInt(4) == 0 ? " or sort=2)" : ")");
        }
        return s.append(";").toString();
    }

    private String longLaw(boolean lines) {
        StringBuilder s = new StringBuilder();
        int count = in(14, 18);
        for (int i = 0; i < count; i++) {
            s.append(lines ? "line " + i % 6 + " when size=" + i % 9 + ";" : "take " + i + " when size=" + i % 9 + ";");
        }
        return s.toString();
    }

    private String spoiled(StringBuilder s) {
        String[] bits = {"9", "0", "/0", "12345", "line", "take", "when", "not ", "(", ")", ";", ".", "Take", "\t",
            "and", "<", "-", "short", "behind", "\u00e9"};
        for (int i = r.nextInt(2); i >= 0; i--) {
            int at = r.nextInt(s.length() + 1);
            if (r.nextBoolean() && at < s.length()) {
                s.delete(at, Math.min(s.length(), at + in(1, 4)));
            } else {
                s.insert(at, bits[r.nextInt(bits.length)]);
            }
        }
        return s.toString();
    }

    private void tellLaw(int k) {
        String text = aLaw(k == 4);
        if (text.length() > 400) text = text.substring(0, 400);
        for (int from = 0; from < text.length(); from += 20) {
            int a = Due.four(text, from), b = Due.four(text, from + 4), c = Due.four(text, from + 8);
            int d = Due.four(text, from + 12), e = Due.four(text, from + 16);
            same("feed", m.feed(a, b, c, d, e), x.feed(a, b, c, d, e));
        }
        same("end " + text.length(), m.end(text.length()), x.end(text.length()));
        same("text " + k + " " + text, m.text(k), x.text(k));
        same("fault 0 " + text, m.fault(0), x.fault(0));
        same("fault 1 " + text, m.fault(1), x.fault(1));
    }

    // ---- runs

    private void play() {
        for (int k = 0; k < 5; k++) if (r.nextInt(4) > 0) tellLaw(k);
        int most = in(60, 470);
        while (calls < most) {
            step(r.nextInt(34));
        }
        look();
    }

    private void look() {
        for (int line = 0; line < 6; line++) {
            same("line " + line, m.line(line, 0), x.line(line, 0));
            same("line " + line + " people", m.line(line, 1), x.line(line, 1));
        }
        for (int what = 0; what <= 6; what++) same("count " + what, m.count(what), x.count(what));
        for (int what = 0; what <= 8; what++) same("told " + what, m.told(what), x.told(what));
    }

    private void step(int kind) {
        int line = aLine(), place = aPlace(), what;
        switch (kind) {
            case 0: case 1: case 2: case 3: case 4: {
                int size = aSize(), says = says(size), sort = aSort();
                same("come " + size + " " + says + " " + sort, m.come(size, says, sort), x.come(size, says, sort));
                break;
            }
            case 5: {
                int k = near(0, 7), size = aSize(), says = says(size), sort = aSort(), chance = near(0, 1000);
                if (r.nextInt(4) == 0) chance = 0;
                same("comer " + k + " " + size + " " + says + " " + sort + " " + chance,
                    m.comer(k, size, says, sort, chance), x.comer(k, size, says, sort, chance));
                break;
            }
            case 6: case 7:
                what = near(0, 6);
                same("group " + line + " " + place + " " + what, m.group(line, place, what), x.group(line, place, what));
                break;
            case 8:
                what = near(0, 1);
                same("line " + line + " " + what, m.line(line, what), x.line(line, what));
                break;
            case 9: case 10:
                same("pick " + line + " " + place, m.pick(line, place), x.pick(line, place));
                break;
            case 11:
                same("send", m.send(), x.send());
                break;
            case 12: case 13: case 14:
                same("chair", m.chair(), x.chair());
                break;
            case 15: {
                int n = r.nextInt(3) > 0 ? in(1, 5) : near(1, 60);
                same("run " + n, m.run(n), x.run(n));
                break;
            }
            case 16: case 17:
                what = r.nextInt(3) == 0 ? near(0, 1) : (r.nextBoolean() ? 10 : 20) + near(0, 7);
                same("last " + what, m.last(what), x.last(what));
                break;
            case 18: case 19:
                what = near(0, 49);
                same("count " + what, m.count(what), x.count(what));
                break;
            default:
                rareStep(kind, line, place);
        }
    }

    private void rareStep(int kind, int line, int place) {
        int what, n;
        switch (kind) {
            case 20:
                what = r.nextBoolean() ? near(0, 1) : 10 + near(0, 7);
                same("best " + what, m.best(what), x.best(what));
                break;
            case 21:
                same("look " + line, m.look(line), x.look(line));
                break;
            case 22: {
                int size = near(1, 8);
                n = r.nextInt(3) > 0 ? in(0, 3) : near(0, 9);
                same("heap " + size + " " + n, m.heap(size, n), x.heap(size, n));
                break;
            }
            case 23:
                what = near(0, 8);
                same("fewest " + what, m.fewest(what), x.fewest(what));
                break;
            case 24: {
                int rule = near(0, 3), bound = near(0, 99), seats = near(2, 8);
                if (r.nextBoolean()) bound = in(0, 4);
                n = near(1, 40);
                what = near(0, 5);
                same("thought " + rule + " " + bound + " " + seats + " " + n + " " + what,
                    m.thought(rule, bound, seats, n, what), x.thought(rule, bound, seats, n, what));
                break;
            }
            case 25: {
                int bound = r.nextBoolean() ? in(0, 4) : near(0, 99);
                n = near(1, 40);
                same("price " + bound + " " + n, m.price(bound, n), x.price(bound, n));
                break;
            }
            case 26:
                if (r.nextBoolean()) {
                    int[] one = aStanding();
                    line = one[0];
                    place = one[1];
                }
                same("till " + line + " " + place, m.till(line, place), x.till(line, place));
                break;
            case 27: {
                int line2 = aLine(), place2 = aPlace();
                if (r.nextInt(4) > 0) {
                    int[] one = aStanding(), other = aStanding();
                    line = one[0];
                    place = one[1];
                    line2 = other[0];
                    place2 = other[1];
                }
                what = near(0, 1);
                same("together " + line + " " + place + " " + line2 + " " + place2 + " " + what,
                    m.together(line, place, line2, place2, what), x.together(line, place, line2, place2, what));
                break;
            }
            case 28:
                n = near(1, 40);
                same("needed " + n, m.needed(n), x.needed(n));
                break;
            case 29: {
                int i = r.nextBoolean() ? near(0, 59) : in(0, 6);
                what = near(0, 2);
                same("past " + i + " " + what, m.past(i, what), x.past(i, what));
                break;
            }
            case 30:
                n = near(1, 20);
                what = near(0, 2);
                same("which " + n + " " + what, m.which(n, what), x.which(n, what));
                break;
            case 31: {
                int w = near(1, r.nextBoolean() ? 40 : 9);
                int p = r.nextBoolean() ? -1 : place;
                same("folded " + line + " " + w + " " + p, m.folded(line, w, p), x.folded(line, w, p));
                break;
            }
            default:
                tellStep(kind, line);
        }
    }

    private void tellStep(int kind, int line) {
        int what, v;
        if (kind == 32) {
            what = near(0, 5);
            int[] most = {8, 99, 999, 1000, r.nextBoolean() ? 4 : 99, 3};
            v = what < 0 || what > 5 ? r.nextInt(5) : near(what == 0 ? 2 : what == 1 ? 1 : 0, most[what]);
            same("set " + what + " " + v, m.set(what, v), x.set(what, v));
            return;
        }
        switch (r.nextInt(8)) {
            case 0:
                v = near(1, 24);
                same("seen " + line + " " + v, m.seen(line, v), x.seen(line, v));
                break;
            case 1: case 2: {
                int size = near(2, 8), part = near(0, Math.max(1, Math.min(8, size) - 1));
                same("parts " + size + " " + part, m.parts(size, part), x.parts(size, part));
                break;
            }
            case 3:
                if (calls < 440) tellLaw(near(0, 4));
                break;
            case 4:
                same("image true", m.image(true), x.image(true));
                break;
            case 5:
                same("image false", m.image(false), x.image(false));
                break;
            case 6:
                v = r.nextInt();
                same("state " + v, m.state(v), x.state(v));
                break;
            default:
                what = near(0, 8);
                same("told " + what, m.told(what), x.told(what));
        }
    }
}

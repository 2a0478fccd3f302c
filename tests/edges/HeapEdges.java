/** The words of part 4 that tell of the HEAP, of PAST, of FOLDED queues and of THE IMAGE. */
final class HeapEdges {
    private final Doc doc;

    HeapEdges(Doc doc) {
        this.doc = doc;
    }

    void all() {
        doc.section("==== 4.");
        heap();
        fewest();
        first();
        past();
        folded();
        rows();
        image();
    }

    /** An object with so many SEATS, and a HEAP of these SIZES. */
    private static SinglesUp heaped(int seats, int... sizes) {
        SinglesUp x = new SinglesUp();
        x.set(0, seats);
        int[] counts = new int[9];
        for (int size : sizes) {
            counts[size]++;
            x.heap(size, counts[size]);
        }
        return x;
    }

    private void heap() {
        doc.says("HEAP: counts of groups of SIZES 1 .. 8 (0 .. 9 each, 12 together at most).");
        for (int size = 1; size <= 8; size++) {
            SinglesUp x = new SinglesUp();
            x.set(0, 8);
            doc.is("10 of " + size, false, x.heap(size, 10));
            doc.is("-1 of " + size, false, x.heap(size, -1));
            doc.is("none", 0, x.fewest(0));
            doc.is("9 of " + size, true, x.heap(size, 9));
            int other = size % 8 + 1;
            doc.is("13 together", false, x.heap(other, 4));
            doc.is("12 together", true, x.heap(other, 3));
            doc.is("the same again", true, x.heap(other, 3));
            doc.is("one more of another", false, x.heap(other % 8 + 1, 1));
            doc.is("0 of another", true, x.heap(other % 8 + 1, 0));
            doc.is("one more of the one", false, x.heap(size, 10));
            doc.is("one less of it", true, x.heap(size, 8));
            doc.is("then one more of the other", true, x.heap(other, 4));
            doc.is("12 together again", false, x.heap(size, 9));
            doc.is("0 of " + size, true, x.heap(size, 0));
            doc.is("0 of " + other, true, x.heap(other, 0));
            doc.is("none again", 0, x.fewest(0));
        }
        SinglesUp x = new SinglesUp();
        doc.is("SIZE 0", false, x.heap(0, 1));
        doc.is("SIZE 0, none", false, x.heap(0, 0));
        doc.is("SIZE 9", false, x.heap(9, 0));
        doc.is("SIZE -1", false, x.heap(-1, 0));
        doc.is("the greatest int", false, x.heap(1, Integer.MAX_VALUE));
        doc.is("the least", false, x.heap(Integer.MIN_VALUE, 1));
    }

    private void fewest() {
        doc.says("FEWEST: the least number of chairs of SEATS on which all of them sit whole"
            + " (none if a SIZE is above SEATS).");
        doc.is("none", 0, heaped(4).fewest(0));
        doc.is("one", 1, heaped(4, 1).fewest(0));
        doc.is("4 and 1 are above 4", 2, heaped(4, 4, 1).fewest(0));
        doc.is("3 and 1 are not", 1, heaped(4, 3, 1).fewest(0));
        doc.is("whole: 3 and 3 and 2 on 4", 3, heaped(4, 3, 3, 2).fewest(0));
        doc.is("3, 3, 2, 2, 2 on 6", 2, heaped(6, 3, 3, 2, 2, 2).fewest(0));
        doc.is("4, 3, 3, 2, 2, 2 on 8, which go as 4 2 2 and 3 3 2", 2, heaped(8, 4, 3, 3, 2, 2, 2).fewest(0));
        doc.is("twelve of 1 on 8", 2, heaped(8, 1, 1, 1, 1, 1, 1, 1, 1, 1, 2, 2, 2).fewest(0));
        doc.is("nine of 1 on 2", 5, heaped(2, 1, 1, 1, 1, 1, 1, 1, 1, 1).fewest(0));
        doc.is("twelve chairs", 12, heaped(8, 8, 8, 8, 8, 8, 8, 8, 8, 8, 7, 7, 7).fewest(0));
        for (int seats = 2; seats <= 7; seats++) {
            doc.is("one SIZE above " + seats, -1, heaped(seats, 1, 1, seats + 1).fewest(0));
            doc.is("the same on one seat more", 2, heaped(seats + 1, 1, 1, seats + 1).fewest(0));
        }
        SinglesUp x = heaped(4, 5);
        doc.is("5 above 4", -1, x.fewest(0));
        x.set(0, 5);
        doc.is("5 not above 5", 1, x.fewest(0));
        x.set(0, 4);
        x.heap(5, 0);
        doc.is("none again", 0, x.fewest(0));
    }

    private void first(String call, SinglesUp x, int... sizes) {
        int[] counts = new int[9];
        for (int size : sizes) {
            counts[size]++;
        }
        for (int size = 1; size <= 8; size++) {
            doc.is(call + ": of " + size, counts[size], x.fewest(size));
        }
    }

    private void first() {
        doc.says("FIRST of a FEWEST filling: of all ways to fill the first chair with a group of the greatest SIZE"
            + " there is,");
        first("8 alone", heaped(8, 1, 1, 8), 8);
        first("3, though 2 2 would fill it", heaped(4, 3, 2, 2), 3);
        first("1", heaped(2, 1), 1);
        first("5 and 3", heaped(8, 5, 4, 4, 3), 5, 3);

        doc.says("so that the rest needs one chair less,");
        // 4 4 first would leave 3 3 2 2 2, which need two more; 4 2 2 leaves 4 3 3 2.
        doc.is("4, 3, 3, 2, 2, 2", 2, heaped(8, 4, 3, 3, 2, 2, 2).fewest(0));
        first("4 2 2, for 4 3 would leave 3 2 2 2", heaped(8, 4, 3, 3, 2, 2, 2), 4, 2, 2);
        first("4 3, for 4 2 would leave 3 3 2", heaped(7, 4, 3, 3, 2, 2), 4, 3);
        first("3 3 2, for the rest is 2 2 2 2", heaped(8, 3, 3, 2, 2, 2, 2, 2), 3, 3, 2);
        first("3 2 2, for 3 3 would leave 2 2 2 2", heaped(7, 3, 3, 2, 2, 2, 2), 3, 2, 2);
        first("5 2, for 5 alone would leave too many", heaped(7, 5, 5, 2, 2), 5, 2);

        doc.says("the one with most of the greatest SIZE, then of the next lesser one, and so on:"
            + " its count of each SIZE.");
        first("4 4 rather than 4 3 1", heaped(8, 4, 4, 3, 3, 1, 1), 4, 4);
        first("4 3 1 rather than 4 2 2", heaped(8, 4, 3, 2, 2, 1), 4, 3, 1);
        first("5 2 1 rather than 5 1 1 1", heaped(8, 5, 2, 1, 1, 1), 5, 2, 1);
        first("3 3 2 rather than 3 3 1 1", heaped(8, 3, 3, 2, 1, 1, 1), 3, 3, 2);
        first("2 2 rather than 2 1 1", heaped(4, 2, 2, 1, 1, 1), 2, 2);
        first("all that there are", heaped(8, 2, 1, 1), 2, 1, 1);
        first("eight of 1", heaped(8, 1, 1, 1, 1, 1, 1, 1, 1, 1), 1, 1, 1, 1, 1, 1, 1, 1);
        first("all SIZES", heaped(8, 1, 2, 3, 4, 5, 6, 7, 8), 8);
        SinglesUp x = heaped(8, 1, 1, 2, 2, 3, 3, 4, 4, 5, 6, 7, 8);
        doc.is("46 people on 48 seats", 6, x.fewest(0));
        first("the twelve with most ways", x, 8);
        x.heap(8, 0);
        first("without 8", x, 7, 1);
        x.heap(7, 0);
        first("without 7", x, 6, 2);
    }

    private void past() {
        doc.says("PAST: of the last 60 chairs that went (the 0th the last one): seats left, how many groups sat,"
            + " its TIME as it went (with its SECONDS and HALT).");
        SinglesUp x = Doc.ruled("take 1;", 2, 1, 4);
        doc.is("none went", -1, x.past(0, 0));
        x.chair();
        doc.is("no second one", -1, x.past(1, 0));
        x.set(3, 1000);
        x.chair();
        x.set(3, 0);
        x.set(1, 10);
        x.send();
        int[][] past = {{4, 0, 62}, {0, 1, 52}, {1, 2, 6}};
        for (int i = 0; i < 3; i++) {
            doc.is("seats left, " + i, past[i][0], x.past(i, 0));
            doc.is("groups, " + i, past[i][1], x.past(i, 1));
            doc.is("TIME, " + i, past[i][2], x.past(i, 2));
        }
        x.run(57);
        doc.is("60 went: the 59th back is the first", 6, x.past(59, 2));
        doc.is("its groups", 2, x.past(59, 1));
        doc.is("no 60th back", -1, x.past(60, 2));
        x.run(1);
        doc.is("61 went: the 59th back is the second", 52, x.past(59, 2));
        doc.is("no 60th back", -1, x.past(60, 2));
        x.run(60);
        for (int i = 0; i < 60; i++) {
            doc.is("121 went: TIME, " + i, 62 + 10 * (118 - i), x.past(i, 2));
        }
        x.needed(40);
        doc.is("none of those in thought", 62 + 1180, x.past(0, 2));
    }

    /** Plain groups of these SIZES fold, in rows for w, into these rows; the last number is how many. */
    private void folds(SinglesUp x, int line, int w, int... rows) {
        int count = rows.length - 1;
        for (int place = 0; place < count; place++) {
            doc.is("W " + w + ", place " + place, rows[place], x.folded(line, w, place));
        }
        doc.is("W " + w + ": how many", rows[count], x.folded(line, w, -1));
        doc.is("W " + w + ": place " + count, -1, x.folded(line, w, count));
    }

    private void folded() {
        doc.says("FOLDED: a LINE in a hall in which a row has place for W (1 .. 40) people:");
        SinglesUp x = Doc.ruled("", 8, 8, 8, 8, 8, 8);
        folds(x, 0, 40, 0, 0, 0, 0, 0, 1, 2);
        folds(x, 0, 39, 0, 0, 0, 0, 1, 1, 2);
        folds(Doc.ruled("", 1, 1, 1), 0, 1, 0, 1, 2, 3);
        doc.is("W 0", -1, x.folded(0, 0, 0));
        doc.is("W 41", -1, x.folded(0, 41, 0));
        doc.is("W -1", -1, x.folded(0, -1, -1));
        doc.is("W 0, how many", -1, x.folded(0, 0, -1));
        doc.is("W 41, how many", -1, x.folded(0, 41, -1));
        for (int line = 0; line <= 5; line++) {
            x = new SinglesUp();
            Due.tell(x, 4, "line " + line + " when size=3;");
            folds(x, line, 7, 0);
            Doc.came(x, 3, 3, 3);
            folds(x, line, 7, 0, 0, 1, 2);
        }
        doc.is("LINE 6", -1, x.folded(6, 7, -1));
        doc.is("LINE -1", -1, x.folded(-1, 7, -1));

        doc.says("group by group, from the front, each in the row where the one ahead ends, if it has place there"
            + " (by SIZE), else in the next row");
        folds(Doc.ruled("", 3, 2, 1), 0, 5, 0, 0, 1, 2);
        folds(Doc.ruled("", 3, 2, 1), 0, 6, 0, 0, 0, 1);
        folds(Doc.ruled("", 3, 3, 1, 3, 2), 0, 4, 0, 1, 1, 2, 3, 4);
        folds(Doc.ruled("", 4, 3, 1), 0, 5, 0, 1, 1, 2);
        x = new SinglesUp();
        x.come(3, 1, 3);
        x.come(3, 1, 3);
        folds(x, 0, 5, 0, 1, 2);
        x = Doc.ruled("take 1;", 4, 4, 4);
        x.chair();
        x.chair();
        folds(x, 0, 5, 0, 1);
        x.chair();
        folds(x, 0, 5, 0);
    }

    private void rows() {
        doc.says("(one whose SIZE is above W has rows of its own, as many as it needs):");
        folds(Doc.ruled("", 6, 1), 0, 5, 0, 2, 3);
        folds(Doc.ruled("", 1, 6, 1), 0, 5, 0, 1, 3, 4);
        folds(Doc.ruled("", 5, 5), 0, 5, 0, 1, 2);
        folds(Doc.ruled("", 8, 8), 0, 4, 0, 2, 4);
        folds(Doc.ruled("", 8, 1), 0, 3, 0, 3, 4);
        folds(Doc.ruled("", 8, 1), 0, 1, 0, 8, 9);
        folds(Doc.ruled("", 7, 7, 1, 1), 0, 6, 0, 2, 4, 4, 5);
        folds(Doc.ruled("", 2, 1), 0, 1, 0, 2, 3);

        doc.says("the (first) row of a group (0 the front), and how many rows there are.");
        folds(Doc.ruled(""), 0, 5, 0);
        folds(Doc.ruled("", 1), 0, 5, 0, 1);
        folds(Doc.ruled("", 8), 0, 5, 0, 2);
        folds(Doc.ruled("", 1, 8), 0, 5, 0, 1, 3);
        SinglesUp x = new SinglesUp();
        for (int i = 0; i < 40; i++) {
            x.come(8, 8, 0);
        }
        doc.is("40 groups, 8 rows each", 312, x.folded(0, 1, 39));
        doc.is("all of them", 320, x.folded(0, 1, -1));
    }

    private void image() {
        doc.says("THE IMAGE: all that is and was told but the TAPE, fault() and who is picked, as it was when it was"
            + " taken;");
        SinglesUp x = Doc.ruled("take 1;", 3, 3);
        Due.feed(x, "take 1/0;");
        x.text(1);
        Due.feed(x, "take 7;");
        x.image(true);
        Due.feed(x, "take 8;");
        doc.is("gone back to", true, x.image(false));
        doc.is("fault() stays", 2, x.fault(0));
        doc.is("the TAPE stays", 1, x.text(0));
        doc.is("as it was fed since", 8, x.group(0, 0, 6));
        doc.is("fault() is of that", 0, x.fault(0));
        x.image(false);
        doc.is("the RULE is as it was", 1, x.group(0, 0, 6));
        x.pick(0, 0);
        x.image(true);
        doc.is("who is picked stays, as the image is taken", 1, x.told(6));
        x.pick(0, 0);
        x.image(false);
        doc.is("not, as it is gone back to", 0, x.told(6));
        x.chair();
        x.chair();
        x.chair();
        x.image(false);
        doc.stand("as it was", x, 0, 0, 1);
        doc.is("no CHAIR", 0, x.count(0));
        imageOfTheSeen();
        imageOfAll();

        doc.says("gone back to it may be more than once (nobody is picked then).");
        for (int i = 0; i < 3; i++) {
            x.chair();
            x.come(8, 8, 2);
            x.set(0, 8);
            x.pick(0, 0);
            doc.is("once more", true, x.image(false));
            doc.is("nobody is picked", 0, x.told(6));
            doc.stand("as it was", x, 0, 0, 1);
            doc.is("no CHAIR", 0, x.count(0));
            doc.is("SEATS", 4, x.told(0));
            doc.is("all SEATS are free", 0, x.pick(0, 1));
            doc.is("but for 3", 3, x.pick(0, 0));
        }
        x.image(false);
        x.chair();
        x.image(true);
        x.chair();
        x.image(false);
        doc.is("a later image", 1, x.count(0));
    }

    private void imageOfTheSeen() {
        for (int line = 0; line <= 5; line++) {
            SinglesUp x = new SinglesUp();
            Due.tell(x, 4, "line " + line + " when 1=1;");
            x.seen(line, 2);
            Doc.came(x, 1, 1, 1);
            x.image(true);
            x.seen(line, 3);
            x.image(false);
            doc.is("SEEN of LINE " + line, 2, x.pick(line, 2));
            doc.is("who stands there", 3, x.line(line, 0));
        }
    }

    private void imageOfAll() {
        SinglesUp x = Doc.ruled("take 1+waited when line=5;", 1, 2);
        Due.tell(x, 4, "line 5 when size=3;");
        Due.tell(x, 3, "take 5;");
        int[] told = {5, 7, 33, 1000, 3, 3};
        Doc.came(x, 3, 3, 3);
        x.comer(7, 3, 2, 3, 1000);
        for (int what = 0; what <= 5; what++) {
            x.set(what, told[what]);
        }
        x.seen(5, 2);
        x.parts(3, 1);
        x.heap(5, 3);
        x.set(5, 0);
        x.run(2);
        x.set(5, 3);
        int[] counts = new int[49];
        for (int what = 0; what < 49; what++) {
            counts[what] = x.count(what);
        }
        int[] rows = rowsOf(x);
        x.image(true);
        for (int what = 0; what <= 5; what++) {
            x.set(what, 2);
        }
        for (int k = 0; k <= 4; k++) {
            Due.tell(x, k, k == 4 ? "line 1 when 1=1;" : "take 2;");
        }
        x.seen(5, 20);
        x.seen(0, 1);
        x.parts(3, 2);
        x.parts(2, 1);
        x.comer(7, 1, 1, 0, 1);
        x.comer(0, 1, 1, 0, 1000);
        x.heap(5, 0);
        x.heap(1, 1);
        x.state(5);
        x.run(60);
        x.come(4, 4, 0);
        x.image(false);
        for (int what = 0; what <= 5; what++) {
            doc.is("told " + what, told[what], x.told(what));
        }
        for (int what = 0; what < 49; what++) {
            doc.is("count " + what, counts[what], x.count(what));
        }
        int[] now = rowsOf(x);
        for (int i = 0; i < rows.length; i++) {
            doc.is("number " + i + " of what is", rows[i], now[i]);
        }
        doc.is("THE LINES", 5, x.come(3, 3, 0));
        doc.is("the HEAP", 3, x.fewest(0));
        doc.is("no PARTS of 2", 5, x.chair());
    }

    private static int[] rowsOf(SinglesUp x) {
        int[] row = new int[6 * 3 * 7 + 30 + 9 + 2];
        int k = 0;
        for (int line = 0; line < 6; line++) {
            for (int place = 0; place < 3; place++) {
                for (int what = 0; what < 7; what++) {
                    row[k++] = x.group(line, place, what);
                }
            }
        }
        for (int what = 0; what < 30; what++) {
            row[k++] = x.last(what);
        }
        for (int i = 0; i < 9; i++) {
            row[k++] = x.past(i / 3, i % 3);
        }
        row[k++] = x.told(7);
        row[k] = x.told(8);
        return row;
    }
}

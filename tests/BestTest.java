/** Promises 20 to 23 and 31: the best filling by what is seen, the heap, and folded queues. */
public final class BestTest {
    private static final Due due = new Due();

    public static void main(String[] args) {
        promise20Best();
        promise20TheFirstOfSeveral();
        promise20Children();
        promise20ManyGroups();
        promise21Look();
        promise21LookFar();
        promise22Heap();
        promise23Fewest();
        promise23First();
        promise23AsAll();
        promise31Folded();
        promise31FoldedWide();
        due.end("BestTest");
    }

    private static void best(String call, SinglesUp x, int seats, int... spots) {
        due.is(call + ": seats", seats, x.best(0));
        due.is(call + ": groups", spots.length, x.best(1));
        for (int i = 0; i < spots.length; i++) {
            due.is(call + ": the " + i + "th", spots[i], x.best(10 + i));
        }
        due.is(call + ": no more", -1, x.best(10 + spots.length));
    }

    /** Plain groups of these SIZES, one after the other. */
    private static SinglesUp came(int... sizes) {
        SinglesUp x = new SinglesUp();
        for (int size : sizes) {
            x.come(size, size, 0);
        }
        return x;
    }

    private static void promise20Best() {
        SinglesUp x = new SinglesUp();
        best("20: nobody", x, 0);
        int[] none = {2, 9, -1, 10, 17, 18, 28, Integer.MIN_VALUE, Integer.MAX_VALUE};
        for (int what : none) {
            due.is("20: no " + what, -1, x.best(what));
        }
        best("20: 4 fills most", came(3, 4), 4, 1);
        best("20: 2 and 2", came(3, 2, 2), 4, 1, 2);
        best("20: all are above", came(5, 8), 0);
        x = came(5, 3);
        best("20: 3", x, 3, 1);
        x.set(0, 8);
        best("20: by SEATS", x, 8, 0, 1);
        x = new SinglesUp();
        x.come(4, 1, 3);
        x.come(3, 3, 0);
        x.come(1, 1, 2);
        x.come(1, 1, 3);
        best("20: by SIZE, no dear ones", x, 4, 0);
        x.set(0, 3);
        best("20: plain ones", x, 3, 1);
        x.set(0, 2);
        best("20: alone", x, 1, 3);
        x = came(1, 1, 2);
        x.seen(0, 2);
        best("20: what is SEEN", x, 2, 0, 1);
        x.pick(0, 0);
        best("20: whoever is picked", x, 2, 0, 1);
        due.is("20: nothing of it stays", 1, x.told(6));
    }

    private static void promise20TheFirstOfSeveral() {
        best("20: the first", came(4, 4), 4, 0);
        best("20: 1 and 3 before 4", came(1, 4, 3), 4, 0, 2);
        best("20: 3 and 1 before 2 and 2", came(3, 2, 2, 1), 4, 0, 3);
        best("20: the first 1s", came(1, 1, 1, 2, 1), 4, 0, 1, 2, 4);
        best("20: of ways with the first, that with the second", came(1, 1, 3, 2), 4, 0, 1, 3);
        best("20: not the first if that fills less", came(1, 2, 2), 4, 1, 2);
        SinglesUp x = new SinglesUp();
        Due.tell(x, 4, "line 5 when sort=3; line 2 when size=3;");
        x.come(2, 2, 3);
        x.come(3, 3, 0);
        x.come(2, 2, 3);
        x.come(1, 1, 0);
        x.come(1, 1, 0);
        best("20: by LINES, then places", x, 4, 0, 1, 500);
        x.set(0, 5);
        best("20: of more LINES", x, 5, 0, 1, 200);
        x.set(0, 7);
        best("20: of all", x, 7, 0, 1, 200, 500);
        x.set(0, 6);
        best("20: but for the 3", x, 6, 0, 1, 500, 501);
    }

    private static void promise20Children() {
        SinglesUp x = new SinglesUp();
        x.come(2, 2, 1);
        x.come(2, 2, 1);
        best("20: children alone", x, 0);
        x.come(3, 3, 0);
        best("20: no place for both", x, 3, 2);
        x.come(2, 2, 2);
        best("20: nor with the dear", x, 3, 2);
        x.come(2, 2, 3);
        best("20: with one of another sort", x, 4, 0, 4);
        x = new SinglesUp();
        x.come(4, 4, 1);
        x.come(4, 4, 1);
        x.come(3, 3, 0);
        best("20: children that fill all may not go", x, 3, 2);
        x = new SinglesUp();
        x.come(1, 1, 1);
        x.come(1, 1, 1);
        x.come(3, 3, 1);
        x.come(1, 1, 0);
        best("20: as many as go with one", x, 4, 2, 3);
        x.set(0, 3);
        best("20: the first", x, 3, 0, 1, 3);
    }

    private static void promise20ManyGroups() {
        SinglesUp x = new SinglesUp();
        Due.tell(x, 4, "line 3 when first=20;");
        for (int i = 0; i < 20; i++) {
            x.come(1, 1, 1);
        }
        for (int i = 0; i < 24; i++) {
            x.come(2, 2, 0);
        }
        x.seen(0, 24);
        x.seen(3, 24);
        x.set(0, 8);
        best("20: six children and two", x, 8, 0, 1, 2, 3, 4, 5, 300);
        x.set(0, 7);
        best("20: five children and two", x, 7, 0, 1, 2, 3, 4, 300);
        x = new SinglesUp();
        Due.tell(x, 4, "line 1 when short=1; line 2 when short=2; line 3 when short=3; line 4 when short=4;"
            + "line 5 when short=5;");
        for (int i = 0; i < 150; i++) {
            x.come(i == 143 ? 1 : 2, 1, 0);
        }
        for (int line = 0; line < 6; line++) {
            x.seen(line, 24);
        }
        x.set(0, 3);
        best("20: the first and the last of 144", x, 3, 0, 523);
        x.seen(5, 23);
        best("20: without the last one", x, 2, 0);
        due.is("20: which makes 1 more", 1, x.look(5));
        x = came(1, 1, 1, 1, 1, 1, 1, 1, 1);
        x.set(0, 8);
        best("20: eight", x, 8, 0, 1, 2, 3, 4, 5, 6, 7);
    }

    private static void promise21Look() {
        SinglesUp x = came(3, 2, 2, 1);
        due.is("21: nothing to be gained", 0, x.look(0));
        x.seen(0, 1);
        due.is("21: 2 behind 3", 0, x.look(0));
        x.seen(0, 2);
        due.is("21: 2 and 2", 1, x.look(0));
        x.seen(0, 3);
        due.is("21: full already", 0, x.look(0));
        due.is("21: another LINE", 0, x.look(5));
        due.is("21: line 6", -1, x.look(6));
        due.is("21: line -1", -1, x.look(-1));
        x.seen(0, 2);
        due.is("21: nothing of it stays", 3, x.best(0));
        x = new SinglesUp();
        x.come(4, 4, 1);
        x.come(4, 4, 0);
        x.set(0, 8);
        x.seen(0, 1);
        due.is("21: children and who goes with them", 8, x.look(0));
        x = new SinglesUp();
        Due.tell(x, 4, "line 1 when sort=3;");
        x.come(1, 1, 0);
        x.come(2, 2, 3);
        x.come(3, 3, 3);
        x.come(2, 2, 0);
        x.seen(0, 1);
        x.seen(1, 1);
        due.is("21: LINE 0: 2 and 2", 1, x.look(0));
        due.is("21: LINE 1: 1 and 3", 1, x.look(1));
        x.set(0, 8);
        due.is("21: LINE 0: 1, 2 and 2", 2, x.look(0));
        due.is("21: LINE 1: 1, 2 and 3", 3, x.look(1));
    }

    private static void promise21LookFar() {
        SinglesUp x = new SinglesUp();
        for (int i = 0; i < 23; i++) {
            x.come(1, 1, 1);
        }
        x.come(2, 2, 0);
        x.come(4, 4, 0);
        x.seen(0, 23);
        due.is("21: the 24th", 4, x.look(0));
        x.seen(0, 24);
        due.is("21: 24 are SEEN", -1, x.look(0));
        due.is("21: 24 fill 4", 4, x.best(0));
        x = came(1);
        x.seen(0, 24);
        due.is("21: 24, though one stands", -1, x.look(0));
    }

    private static void promise22Heap() {
        SinglesUp x = new SinglesUp();
        due.is("22: size 0", false, x.heap(0, 1));
        due.is("22: size 9", false, x.heap(9, 1));
        due.is("22: -1", false, x.heap(1, -1));
        due.is("22: 10", false, x.heap(1, 10));
        due.is("22: 9", true, x.heap(1, 9));
        due.is("22: 13 together", false, x.heap(8, 4));
        due.is("22: 12 together", true, x.heap(8, 3));
        due.is("22: one more", false, x.heap(2, 1));
        due.is("22: another count of a SIZE", true, x.heap(1, 8));
        due.is("22: one more then", true, x.heap(2, 1));
        due.is("22: 12 still", true, x.heap(1, 8));
        due.is("22: 13 again", false, x.heap(1, 9));
        x.set(0, 8);
        due.is("22: 8, 8, 8, 8 1s, 2", 5, x.fewest(0));
        due.is("22: none any more", true, x.heap(8, 0));
        due.is("22: 8 1s, 2", 2, x.fewest(0));
    }

    private static void fewest(int seats, int[] sizes, int chairs, int... first) {
        SinglesUp x = new SinglesUp();
        x.set(0, seats);
        int[] counts = new int[9];
        StringBuilder call = new StringBuilder("23: ");
        for (int size : sizes) {
            call.append(size).append(' ');
            counts[size]++;
            x.heap(size, counts[size]);
        }
        call.append("on ").append(seats);
        due.is(call.toString(), chairs, x.fewest(0));
        int[] counted = new int[9];
        for (int size : first) {
            counted[size]++;
        }
        for (int size = 1; size <= 8; size++) {
            due.is(call + ", " + size, chairs < 0 ? -1 : counted[size], x.fewest(size));
        }
        due.is(call + ", 9", -1, x.fewest(9));
        due.is(call + ", -1", -1, x.fewest(-1));
    }

    private static void promise23Fewest() {
        fewest(4, new int[] {}, 0);
        fewest(4, new int[] {1}, 1, 1);
        fewest(4, new int[] {5}, -1);
        fewest(4, new int[] {1, 1, 5}, -1);
        fewest(5, new int[] {1, 1, 5}, 2, 5);
        fewest(4, new int[] {3, 3, 2, 1}, 3, 3, 1);
        fewest(4, new int[] {3, 3, 3, 3, 1, 1, 1, 1}, 4, 3, 1);
        fewest(8, new int[] {8, 8, 8}, 3, 8);
        fewest(2, new int[] {1, 1, 1, 1, 1, 1, 1, 1, 1}, 5, 1, 1);
        fewest(8, new int[] {1, 1, 1, 1, 1, 1, 1, 1, 1}, 2, 1, 1, 1, 1, 1, 1, 1, 1);
        // By size, each where it fits first, these would need three chairs.
        fewest(8, new int[] {4, 3, 3, 2, 2, 2}, 2, 4, 2, 2);
        fewest(7, new int[] {4, 3, 3, 2, 2}, 2, 4, 3);
        fewest(8, new int[] {1, 1, 2, 2, 3, 3, 4, 4, 5, 6, 7, 8}, 6, 8);
        fewest(7, new int[] {5, 5, 4, 4, 3, 3, 2, 2}, 4, 5, 2);
    }

    private static void promise23First() {
        fewest(8, new int[] {5, 3, 3, 2, 1}, 2, 5, 3);
        fewest(8, new int[] {4, 4, 4, 2, 2}, 2, 4, 4);
        fewest(8, new int[] {4, 4, 3, 3, 1, 1}, 2, 4, 4);
        fewest(8, new int[] {3, 3, 2, 2, 2, 2, 2}, 2, 3, 3, 2);
        fewest(7, new int[] {4, 4, 3, 3}, 2, 4, 3);
        fewest(6, new int[] {3, 3, 2, 2, 2, 2, 2, 2}, 3, 3, 3);
        fewest(5, new int[] {3, 2, 2, 2}, 2, 3, 2);
        fewest(7, new int[] {3, 3, 2, 2, 2, 2}, 2, 3, 2, 2);
        fewest(8, new int[] {2, 2, 2, 1, 1}, 1, 2, 2, 2, 1, 1);
        fewest(4, new int[] {2, 2, 1}, 2, 2, 2);
        SinglesUp x = new SinglesUp();
        x.heap(3, 1);
        due.is("23: one of 3", 1, x.fewest(3));
        x.heap(3, 0);
        due.is("23: none any more", 0, x.fewest(3));
        x.heap(8, 1);
        due.is("23: none goes", -1, x.fewest(8));
        x.heap(8, 0);
        due.is("23: none again", 0, x.fewest(8));
    }

    /** Twelve groups of all SIZES, and fewer of them, as the Mirror has them. */
    private static void promise23AsAll() {
        SinglesUp x = new SinglesUp();
        Mirror m = new Mirror();
        for (int size = 1; size <= 8; size++) {
            x.heap(size, 1 + size % 2);
            m.heap(size, 1 + size % 2);
        }
        for (int seats = 8; seats >= 2; seats--) {
            x.set(0, seats);
            m.set(0, seats);
            for (int what = 0; what <= 8; what++) {
                due.is("23: twelve on " + seats + ", " + what, m.fewest(what), x.fewest(what));
            }
        }
        x.set(0, 8);
        for (int size = 8; size >= 5; size--) {
            x.heap(size, 0);
            m.heap(size, 0);
            x.set(0, size - 1);
            m.set(0, size - 1);
            for (int what = 0; what <= 8; what++) {
                due.is("23: below " + size + ", " + what, m.fewest(what), x.fewest(what));
            }
        }
    }

    private static void folded(SinglesUp x, int w, int... rows) {
        int count = rows.length - 1;
        for (int place = 0; place < count; place++) {
            due.is("31: in " + w + ", place " + place, rows[place], x.folded(0, w, place));
        }
        due.is("31: in " + w + ", how many", rows[count], x.folded(0, w, -1));
        due.is("31: in " + w + ", no more", -1, x.folded(0, w, count));
        due.is("31: in " + w + ", place -2", -1, x.folded(0, w, -2));
    }

    private static void promise31Folded() {
        SinglesUp x = new SinglesUp();
        folded(x, 5, 0);
        x.come(3, 1, 3);
        x.come(2, 2, 0);
        x.come(1, 1, 0);
        x.come(6, 6, 0);
        x.come(1, 1, 0);
        x.come(1, 1, 0);
        folded(x, 5, 0, 0, 1, 2, 4, 4, 5);
        folded(x, 6, 0, 0, 0, 1, 2, 2, 3);
        folded(x, 4, 0, 1, 1, 2, 4, 4, 5);
        folded(x, 3, 0, 1, 1, 2, 4, 4, 5);
        folded(x, 2, 0, 2, 3, 4, 7, 7, 8);
        folded(x, 1, 0, 3, 5, 6, 12, 13, 14);
        folded(x, 7, 0, 0, 0, 1, 1, 2, 3);
        folded(x, 40, 0, 0, 0, 0, 0, 0, 1);
        SinglesUp y = came(1, 5, 5, 1);
        folded(y, 5, 0, 1, 2, 3, 4);
        folded(y, 6, 0, 0, 1, 1, 2);
        folded(y, 4, 0, 1, 3, 5, 6);
        due.is("31: w 0", -1, x.folded(0, 0, -1));
        due.is("31: w 41", -1, x.folded(0, 41, -1));
        due.is("31: w below 0", -1, x.folded(0, -3, 0));
        due.is("31: line 6", -1, x.folded(6, 5, -1));
        due.is("31: line -1", -1, x.folded(-1, 5, -1));
        due.is("31: another line", 0, x.folded(5, 5, -1));
        due.is("31: nobody in another line", -1, x.folded(5, 5, 0));
    }

    private static void promise31FoldedWide() {
        SinglesUp x = new SinglesUp();
        Due.tell(x, 4, "line 3 when 1=1;");
        for (int i = 0; i < 40; i++) {
            x.come(8, 8, 0);
        }
        due.is("31: 5 in a row", 7, x.folded(3, 40, 39));
        due.is("31: 8 rows", 8, x.folded(3, 40, -1));
        due.is("31: 4 in a row", 10, x.folded(3, 39, -1));
        due.is("31: 3 rows each", 117, x.folded(3, 3, 39));
        due.is("31: 120 rows", 120, x.folded(3, 3, -1));
        due.is("31: place 40", -1, x.folded(3, 3, 40));
    }
}

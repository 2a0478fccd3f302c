/** The words of part 4 that tell what is IN THOUGHT. */
final class ThoughtEdges {
    private final Doc doc;

    ThoughtEdges(Doc doc) {
        this.doc = doc;
    }

    void all() {
        doc.section("==== 4.");
        nothingStays();
        turns();
        gains();
        longest();
        inPlace();
        price();
        till();
        tillByNumber();
        together();
        togetherAs();
        itPays();
        needed();
        which();
        whichTies();
    }

    /** Six LINES in which plain groups, liars, children and dear ones stand; the same seed makes the same. */
    private static SinglesUp crowd(int seed) {
        SinglesUp x = new SinglesUp();
        Due.tell(x, 0, "take 30-place-line when sort<3;take 9*size;");
        Due.tell(x, 1, "take size when left=size or taken=0 and place<3;take 9-behind when line=1;take 1;");
        Due.tell(x, 4, "line 1 when short=1;line 2 when short=2;line 3 when size=3;line 5 when first>3;");
        int v = seed;
        for (int i = 0; i < 24; i++) {
            v = v * 1103515245 + 12345;
            int size = (v >>> 16) % 4 + 1;
            int sort = (v >>> 20) % 8;
            x.come(size, sort == 3 ? 1 : size, sort > 3 ? 0 : sort);
        }
        x.comer(0, 2, 2, 0, 400);
        x.comer(3, 4, 1, 3, 300);
        x.comer(6, 1, 1, 1, 200);
        x.parts(4, 1);
        x.parts(3, 1);
        x.set(3, 250);
        x.seen(0, 3);
        x.state(seed);
        return x;
    }

    /** What is, as far as 300 calls tell it. */
    private static int[] all(SinglesUp x) {
        int[] row = new int[49 + 9 + 6 * 4 * 7 + 30 + 12 + 6 + 3];
        int k = 0;
        for (int what = 0; what < 49; what++) {
            row[k++] = x.count(what);
        }
        for (int what = 0; what < 9; what++) {
            row[k++] = x.told(what);
        }
        for (int i = 0; i < 6 * 4 * 7; i++) {
            row[k++] = x.group(i / 28, i / 7 % 4, i % 7);
        }
        for (int what = 0; what < 30; what++) {
            row[k++] = x.last(what);
        }
        for (int i = 0; i < 12; i++) {
            row[k++] = x.past(i / 3, i % 3);
        }
        for (int line = 0; line < 6; line++) {
            row[k++] = x.look(line);
        }
        for (int what = 0; what < 3; what++) {
            row[k++] = x.fewest(what);
        }
        return row;
    }

    /** A crowd of which some have gone and some are picked, with an image. */
    private static SinglesUp ridden(int seed) {
        SinglesUp x = crowd(seed);
        x.heap(3, 2);
        x.image(true);
        x.run(5);
        x.pick(0, 0);
        x.pick(1, 0);
        x.pick(2, 0);
        return x;
    }

    private static void think(SinglesUp x, int thought) {
        switch (thought) {
            case 0: x.thought(1, 2, 6, 40, 0); break;
            case 1: x.price(2, 40); break;
            case 2: x.till(1, 1); break;
            case 3: x.together(1, 0, 2, 0, 1); break;
            case 4: x.needed(40); break;
            default: x.which(20, 0);
        }
    }

    private void nothingStays() {
        doc.says("IN THOUGHT (nothing of it stays, STATE too):");
        for (int seed = 1; seed <= 6; seed++) {
            int[] before = all(ridden(seed));
            for (int thought = 0; thought < 6; thought++) {
                SinglesUp x = ridden(seed);
                think(x, thought);
                same("thought " + thought, before, all(x));
            }
            SinglesUp x = ridden(seed);
            SinglesUp y = ridden(seed);
            for (int thought = 0; thought < 6; thought++) {
                think(y, thought);
            }
            doc.is("a thought after all of them", x.thought(0, 0, 4, 30, 2), y.thought(0, 0, 4, 30, 2));
            doc.is("its EMPTY", x.thought(1, 1, 5, 30, 0), y.thought(1, 1, 5, 30, 0));
            x.image(false);
            y.image(false);
            doc.is("what comes after it", x.run(9), y.run(9));
            same("then, from the image", all(x), all(y));
        }
    }

    private void same(String call, int[] want, int[] got) {
        for (int i = 0; i < want.length; i++) {
            doc.is(call + ": number " + i + " of what is", want[i], got[i]);
        }
    }

    private void turns() {
        doc.says("n TURNS (1 .. 40) from things as they are:");
        SinglesUp x = new SinglesUp();
        for (int n = 1; n <= 40; n++) {
            doc.is("n " + n, 4 * n, x.thought(0, 0, 4, n, 0));
        }
        doc.is("n 0", -1, x.thought(0, 0, 4, 0, 0));
        doc.is("n 41", -1, x.thought(0, 0, 4, 41, 0));
        doc.is("n -1", -1, x.thought(0, 0, 4, -1, 0));
        // COMERS come as they would: the draws from STATE 0 are 563, 577, 494.
        Due.tell(x, 0, "take 1;");
        x.comer(4, 3, 3, 0, 500);
        doc.is("two TURNS", 0, x.thought(0, 0, 4, 2, 1));
        doc.is("three TURNS", 3, x.thought(0, 0, 4, 3, 1));
        x.state(1013904223);
        doc.is("two TURNS from another STATE", 3, x.thought(0, 0, 4, 2, 1));
        x.set(3, 1);
        doc.is("a stop's DRAW between: 577, 494, 947, 749, 198", 3, x.thought(0, 0, 4, 3, 1));
        doc.is("without it", 0, x.thought(0, 0, 4, 1, 1));
        // In thought as it is in deed.
        for (int seed = 1; seed <= 8; seed++) {
            x = crowd(seed);
            x.run(seed % 3 + 1);
            inDeed(x, seed % 2, seed % 3, 2 + seed % 7, 5 * seed);
        }
    }

    private void inDeed(SinglesUp x, int rule, int bound, int seats, int n) {
        int[] gains = new int[6];
        for (int what = 0; what < 6; what++) {
            gains[what] = x.thought(rule, bound, seats, n, what);
        }
        x.image(true);
        int[] counts = {1, 2, -1, 6, 5};
        int[] before = new int[5];
        for (int what = 0; what < 5; what++) {
            before[what] = what == 2 ? allWait(x) : x.count(counts[what]);
        }
        x.set(5, rule);
        x.set(4, bound);
        x.set(0, seats);
        x.run(n);
        for (int what = 0; what < 5; what++) {
            int now = what == 2 ? allWait(x) : x.count(counts[what]);
            doc.is(n + " in deed: what " + what, now - before[what], gains[what]);
        }
        int longest = 0;
        for (int size = 1; size <= 8; size++) {
            longest = Math.max(longest, x.count(30 + size));
        }
        doc.is(n + " in deed: what 5", longest, gains[5]);
        x.image(false);
    }

    private static int allWait(SinglesUp x) {
        int wait = 0;
        for (int size = 1; size <= 8; size++) {
            wait += x.count(20 + size);
        }
        return wait;
    }

    private void gained(String call, SinglesUp x, int n, int... gains) {
        for (int what = 0; what < gains.length; what++) {
            doc.is(call + ": what " + what, gains[what], x.thought(0, 0, 4, n, what));
        }
    }

    private void gains() {
        doc.says("EMPTY, PEOPLE, WAIT (all SIZES), AWAY, FOUND that come to it,");
        SinglesUp x = Doc.ruled("take 9-place when size<8;", 3, 2, 4, 1);
        gained("one TURN", x, 1, 0, 4, 0, 0, 0);
        gained("two", x, 2, 2, 6, 1, 0, 0);
        gained("three", x, 3, 2, 10, 3, 0, 0);
        gained("four", x, 4, 6, 10, 3, 0, 0);
        x.run(2);
        gained("after two", x, 1, 0, 4, 2, 0, 0);
        x = Doc.ruled("take 1 when sort=3;");
        for (int i = 0; i < 38; i++) {
            x.come(1, 1, 0);
        }
        x.comer(0, 5, 1, 3, 1000);
        x.seen(0, 24);
        gained("they are not SEEN", x, 1, 4, 0, 0, 0, 0);
        gained("the third finds no place", x, 3, 12, 0, 0, 1, 0);
        gained("nor the fourth", x, 4, 16, 0, 0, 2, 0);
        x.run(4);
        gained("two in all, one more comes to it", x, 1, 4, 0, 0, 1, 0);
        x = Doc.ruled("take 1 when sort=3;");
        x.comer(0, 5, 1, 3, 1000);
        gained("FOUND each", x, 1, 4, 0, 0, 0, 1);
        gained("the second, too", x, 2, 8, 0, 0, 0, 2);
        x.run(2);
        gained("only what comes to it", x, 1, 4, 0, 0, 0, 1);
        for (int size = 1; size <= 8; size++) {
            x = Doc.ruled("take 1 when waited=3;", size);
            doc.is("WAIT of SIZE " + size, 3, x.thought(0, 0, 8, 4, 2));
        }
    }

    private void longest() {
        doc.says("and the greatest LONGEST as it is then.");
        for (int size = 1; size <= 8; size++) {
            SinglesUp x = Doc.ruled("take 1 when waited=3;", size);
            doc.is("not yet", 0, x.thought(0, 0, 8, 3, 5));
            doc.is("3 chairs", 3, x.thought(0, 0, 8, 4, 5));
            x.set(0, 8);
            x.run(4);
            doc.is("it was that before, too", 3, x.thought(0, 0, 8, 1, 5));
            Doc.came(x, size % 8 + 1);
            doc.is("the greatest, not the latest", 3, x.thought(0, 0, 8, 4, 5));
            Due.tell(x, 0, "take 1 when waited=5;");
            doc.is("the greatest of all SIZES", 5, x.thought(0, 0, 8, 6, 5));
        }
    }

    private void inPlace() {
        doc.says("By a RULE (in force for it), with a BOUND (in place of the told one), with SEATS (in place),"
            + " each told.");
        SinglesUp x = new SinglesUp();
        Doc.came(x, 1, 2, 3, 4);
        for (int rule = 0; rule <= 3; rule++) {
            Due.tell(x, rule, "take 1 when size=" + (rule + 1) + ";");
        }
        x.set(5, 2);
        for (int rule = 0; rule <= 3; rule++) {
            doc.is("RULE " + rule, rule + 1, x.thought(rule, 0, 4, 1, 1));
        }
        doc.is("RULE 2 is in force still", 2, x.told(5));
        doc.is("RULE 4", -1, x.thought(4, 0, 4, 1, 1));
        doc.is("RULE -1", -1, x.thought(-1, 0, 4, 1, 1));
        // 3 passes 1 and 2, who go as they are passed.
        doc.is("BOUND 1, RULE 2: 3, then 1 and 2", 6, x.thought(2, 1, 4, 2, 1));
        doc.is("BOUND 0", 3, x.thought(2, 0, 4, 2, 1));
        x.set(4, 1);
        doc.is("BOUND 0 in place of 1", 3, x.thought(2, 0, 4, 2, 1));
        doc.is("BOUND 99 in place of 1", 3, x.thought(2, 99, 4, 2, 1));
        doc.is("BOUND 1 is told still", 1, x.told(4));
        doc.is("BOUND 100", -1, x.thought(2, 100, 4, 2, 1));
        doc.is("BOUND -1", -1, x.thought(2, -1, 4, 2, 1));
        for (int seats = 2; seats <= 8; seats++) {
            doc.is("SEATS " + seats, seats, x.thought(0, 0, seats, 1, 0) + 1);
        }
        doc.is("SEATS are told still", 4, x.told(0));
        doc.is("SEATS 1", -1, x.thought(0, 0, 1, 1, 0));
        doc.is("SEATS 9", -1, x.thought(0, 0, 9, 1, 0));
    }

    private void price() {
        doc.says("PRICE of a BOUND: EMPTY with it less EMPTY without any.");
        SinglesUp x = Doc.ruled("take size-1;", 1, 4, 4);
        // Without: 4, 4, nobody. With BOUND 1: 4, 1, 4.
        doc.is("one TURN", 0, x.price(1, 1));
        doc.is("two", 3, x.price(1, 2));
        doc.is("three", -1, x.price(1, 3));
        doc.is("of none", 0, x.price(0, 3));
        doc.is("BOUND 2 is reached on the third", -1, x.price(2, 3));
        doc.is("BOUND 3 is not", 0, x.price(3, 40));
        x.set(4, 1);
        doc.is("whatever is told", 3, x.price(1, 2));
        doc.is("without any, though 1 is told", 0, x.price(0, 2));
    }

    private void till() {
        doc.says("TILL, in thought, nobody coming: after how many CHAIRS (1 .. 40) the group at a place sits wholly");
        SinglesUp x = Doc.ruled("take 9 when line=0;take 1;");
        Due.tell(x, 4, "line 1 when size=3;");
        Doc.came(x, 3);
        for (int n = 1; n <= 40; n++) {
            if (n == 40) {
                doc.is("after 39 others", 40, x.till(1, 0));
            }
            Doc.came(x, 4);
            doc.is("the last of " + n, n, x.till(0, n - 1));
            doc.is("the first of " + n, 1, x.till(0, 0));
        }
        doc.is("after 40 others", -1, x.till(1, 0));
        x.comer(0, 4, 4, 0, 1000);
        x.chair();
        doc.is("nobody comes in thought", 40, x.till(1, 0));
        x = Doc.ruled("take 1;", 8);
        doc.is("never", -1, x.till(0, 0));
        x.parts(8, 4);
        doc.is("4 of 8, then 4: wholly after two", 2, x.till(0, 0));
        x.parts(8, 1);
        doc.is("1 of 8, then never", -1, x.till(0, 0));
        x.parts(7, 3);
        doc.is("1 of 8, 4 of 7, 3", 3, x.till(0, 0));
        x.set(0, 8);
        doc.is("at once", 1, x.till(0, 0));
        for (int seed = 1; seed <= 6; seed++) {
            for (int line = 0; line < 6; line++) {
                for (int place = 0; place < 3; place++) {
                    tillInDeed(seed, line, place);
                }
            }
        }
    }

    private static boolean stands(SinglesUp x, int number) {
        for (int line = 0; line < 6; line++) {
            int count = x.line(line, 0);
            for (int place = 0; place < count; place++) {
                if (x.group(line, place, 0) == number) {
                    return true;
                }
            }
        }
        return false;
    }

    private void tillInDeed(int seed, int line, int place) {
        SinglesUp x = crowd(seed);
        int number = x.group(line, place, 0);
        int till = x.till(line, place);
        if (number < 0) {
            doc.is("nobody there", -1, till);
            return;
        }
        for (int i = 1; i < (till < 0 ? 41 : till); i++) {
            x.chair();
        }
        String call = "crowd " + seed + ", LINE " + line + " at " + place;
        doc.is(call + ": stands till then", true, stands(x, number));
        if (till > 0) {
            x.chair();
            doc.is(call + ": not any more", false, stands(x, number));
            boolean sits = false;
            for (int i = 0; i < x.last(0); i++) {
                sits |= x.last(10 + i) == number;
            }
            doc.is(call + ": it sits", true, sits);
        }
    }

    private void tillByNumber() {
        doc.says("(NUMBER by NUMBER: none with its NUMBER stands in a LINE any more, and it did not go away).");
        SinglesUp x = Doc.ruled("take 1;", 1, 1, 1, 1, 1, 1, 1, 1, 1);
        for (int seats = 2; seats <= 8; seats++) {
            x.set(0, seats);
            for (int place = 0; place < 9; place++) {
                doc.is("place " + place + " on " + seats, place / seats + 1, x.till(0, place));
            }
        }
        x = Doc.ruled("take 9 when sort=3;take 1;");
        x.come(3, 1, 3);
        x.come(2, 1, 3);
        x.come(3, 3, 0);
        // 3 sits, then 2 is FOUND OUT and comes behind; 3 of the next chair; 2.
        doc.is("FOUND OUT it stands, by its NUMBER", 2, x.till(0, 1));
        doc.is("the first", 1, x.till(0, 0));
        doc.is("the plain one, behind whom it comes", 3, x.till(0, 2));
        x = Doc.ruled("take 9 when line=1;");
        Due.tell(x, 4, "line 1 when sort=3;");
        for (int i = 0; i < 39; i++) {
            x.come(1, 1, 0);
        }
        x.come(5, 4, 3);
        x.come(5, 4, 3);
        x.come(1, 1, 3);
        doc.is("FOUND OUT, it has the last place and never sits", -1, x.till(1, 0));
        doc.is("the next one goes away", -1, x.till(1, 1));
        doc.is("who sits does", 1, x.till(1, 2));
        Due.tell(x, 0, "take 9 when line=1;take 1 when size=5;");
        x.seen(0, 24);
        x.set(0, 5);
        doc.is("on 5 seats both sit", 2, x.till(1, 1));
    }

    private void together() {
        doc.says("TOGETHER, likewise, of two groups of SORT 0 that SAY their SIZES, 8 together at most:");
        SinglesUp x = Doc.ruled("take 1;", 4, 4, 5, 1);
        x.come(3, 2, 0);
        x.come(1, 1, 1);
        x.come(1, 1, 2);
        x.come(1, 1, 3);
        x.set(0, 8);
        doc.is("8 together", 1, x.together(0, 0, 0, 1, 0));
        doc.is("8 together, IT PAYS", 1, x.together(0, 0, 0, 1, 1));
        doc.is("9 together", -2, x.together(0, 0, 0, 2, 0));
        doc.is("9 together, IT PAYS", -2, x.together(0, 2, 0, 1, 1));
        doc.is("6 together, after 4 and 4", 2, x.together(0, 2, 0, 3, 0));
        for (int place = 4; place <= 7; place++) {
            doc.is("not plain or not true, " + place, -2, x.together(0, 3, 0, place, 0));
            doc.is("the first one, " + place, -2, x.together(0, place, 0, 3, 0));
        }
        doc.is("one with itself", -2, x.together(0, 3, 0, 3, 0));
        doc.is("nobody there", -2, x.together(0, 3, 0, 8, 0));
        doc.is("nobody first", -2, x.together(0, 8, 0, 3, 0));
        doc.is("in an empty LINE", -2, x.together(0, 3, 5, 0, 0));
        x.comer(0, 8, 8, 0, 1000);
        doc.is("nobody comes", 2, x.together(0, 2, 0, 3, 0));
        x = Doc.ruled("take 9 when line=0;take 1;");
        Due.tell(x, 4, "line 1 when size<3;");
        Doc.came(x, 1, 2);
        for (int i = 0; i < 39; i++) {
            x.come(4, 4, 0);
        }
        doc.is("after 39 others", 40, x.together(1, 0, 1, 1, 0));
        Doc.came(x, 4);
        doc.is("after 40 others: not within 40", -1, x.together(1, 0, 1, 1, 0));
        x = Doc.ruled("take 1;", 4, 4);
        doc.is("8 on 4 never", -1, x.together(0, 0, 0, 1, 0));
        x.parts(8, 4);
        doc.is("wholly after two", 2, x.together(0, 0, 0, 1, 0));
    }

    private void togetherAs() {
        doc.says("the first one leaves its LINE, the second one has both SIZES (SAID so): after how many CHAIRS that"
            + " one sits wholly.");
        for (int line = 0; line <= 4; line++) {
            SinglesUp x = Doc.ruled("take 1 when place=0;");
            Due.tell(x, 4, "line " + line + " when size>0;");
            Doc.came(x, 2, 1, 1);
            Due.tell(x, 4, "line 5 when size=2;");
            Doc.came(x, 2);
            // With its front in the other LINE: 1; 1; 4. With the second: 2; 1 and 3.
            doc.is("the front of LINE " + line, 3, x.together(line, 0, 5, 0, 0));
            doc.is("the second of LINE " + line, 2, x.together(line, 1, 5, 0, 0));
            // It goes to the LINE of the second one: 4; then 1, then 1.
            doc.is("to the front of LINE " + line, 1, x.together(5, 0, line, 0, 0));
            doc.is("to its second", 2, x.together(5, 0, line, 1, 0));
        }
        SinglesUp x = Doc.ruled("take 9 when size=4;take 1;", 1, 3, 1);
        doc.is("a RULE sees what it SAYS", 1, x.together(0, 0, 0, 1, 0));
        doc.is("and its SIZE", 1, x.together(0, 1, 0, 2, 0));
        x = Doc.ruled("take 5 when size=1;", 1, 1);
        doc.is("and may refuse it", -1, x.together(0, 0, 0, 1, 0));
        // As if the first one had not come, and the second one had come with both SIZES.
        int[] sizes = {2, 1, 3, 1, 2, 4, 1, 1, 2, 3, 1, 2, 1, 4, 2, 1, 3, 1};
        for (int a = 0; a < 18; a++) {
            for (int b = 0; b < 18; b++) {
                if (a != b) {
                    joined(sizes, a, b);
                }
            }
        }
        // Those behind the first one move up with all that they are.
        x = Doc.ruled("take 9 when size=4 and waited=0;take 5 when size=2;", 1, 4);
        x.send();
        Due.tell(x, 4, "line 5 when size=1;");
        Doc.came(x, 4, 1);
        doc.is("4, that did not wait, then 2", 2, x.together(0, 0, 5, 0, 0));
        x.send();
        doc.is("2, for both 4s have waited", 1, x.together(0, 0, 5, 0, 0));
        x = new SinglesUp();
        Due.tell(x, 4, "line 5 when 1=1;");
        Due.tell(x, 0, "take 1 when line=5;");
        for (int i = 0; i < 40; i++) {
            x.come(i < 38 ? 4 : 2, i < 38 ? 4 : 2, 0);
        }
        doc.is("the last of 40 joins the one before it", 39, x.together(5, 39, 5, 38, 0));
        doc.is("and the other way", 39, x.together(5, 38, 5, 39, 0));
        doc.is("all stand", 40, x.line(5, 0));
    }

    /** Six LINES of three plain groups each; the a-th is left out or not, and the b-th has so many more. */
    private static SinglesUp threes(int[] sizes, int without, int greater, int more) {
        SinglesUp x = new SinglesUp();
        Due.tell(x, 0, "take 40-place*7-line*5+size;");
        for (int i = 0; i < 18; i++) {
            if (i % 3 == 0) {
                Due.tell(x, 4, "line " + i / 3 + " when 1=1;");
            }
            if (i != without) {
                int size = sizes[i] + (i == greater ? more : 0);
                x.come(size, size, 0);
            }
        }
        x.set(0, 5);
        x.parts(7, 3);
        return x;
    }

    private void joined(int[] sizes, int a, int b) {
        SinglesUp x = threes(sizes, -1, -1, 0);
        SinglesUp y = threes(sizes, a, b, sizes[a]);
        int place = b % 3 - (a / 3 == b / 3 && a < b ? 1 : 0);
        int together = x.together(a / 3, a % 3, b / 3, b % 3, 0);
        doc.is("the " + a + "th with the " + b + "th", y.till(b / 3, place), together);
        int one = x.till(a / 3, a % 3);
        int other = x.till(b / 3, b % 3);
        boolean pays = together > 0 && one > 0 && other > 0 && (together <= one || together <= other);
        doc.is("whether IT PAYS", pays ? 1 : 0, x.together(a / 3, a % 3, b / 3, b % 3, 1));
    }

    private void itPays() {
        doc.says("IT PAYS, if that is not later than the later of both TILLS (not if one has none).");
        SinglesUp x = Doc.ruled("take 9-place;", 3, 2, 2, 1);
        doc.is("as late as both", 1, x.together(0, 1, 0, 2, 1));
        doc.is("later than both", 0, x.together(0, 0, 0, 3, 1));
        doc.is("as late as the later one, the second", 1, x.together(0, 3, 0, 1, 1));
        doc.is("not as late as the later one", 0, x.together(0, 1, 0, 3, 1));
        doc.is("never", 0, x.together(0, 0, 0, 1, 1));
        x = Doc.ruled("take 5 when size=4;", 3, 1);
        doc.is("1 never sits, 3 neither; 4 does", 1, x.together(0, 0, 0, 1, 0));
        doc.is("both have none", 0, x.together(0, 0, 0, 1, 1));
        x = Doc.ruled("take 5 when size>1;", 1, 2);
        doc.is("3 sits", 1, x.together(0, 0, 0, 1, 0));
        doc.is("the first has none", 0, x.together(0, 0, 0, 1, 1));
        doc.is("the second has none", 0, x.together(0, 1, 0, 0, 1));
        x = Doc.ruled("take 9-place;", 4, 2, 4, 2);
        // 4; 2; 4; 2: the second 2 goes with the first one.
        doc.is("earlier than the later one", 2, x.together(0, 3, 0, 1, 0));
        doc.is("IT PAYS", 1, x.together(0, 3, 0, 1, 1));
    }

    private void needed() {
        doc.says("NEEDED, in thought, nobody coming: EMPTY of those of the next n CHAIRS (1 .. 40) on which anybody"
            + " sits.");
        SinglesUp x = Doc.ruled("take 9-place;", 3, 3, 2, 1);
        doc.is("3 and 1", 0, x.needed(1));
        doc.is("3", 1, x.needed(2));
        doc.is("2", 3, x.needed(3));
        doc.is("nobody", 3, x.needed(4));
        doc.is("nobody for long", 3, x.needed(40));
        x.comer(0, 1, 1, 0, 1000);
        doc.is("nobody comes", 3, x.needed(40));
        doc.is("0", -1, x.needed(0));
        doc.is("41", -1, x.needed(41));
        doc.is("-1", -1, x.needed(-1));
        doc.is("nobody at all", 0, new SinglesUp().needed(40));
        x = Doc.ruled("take 1 when waited=39;", 1);
        doc.is("on the 40th", 3, x.needed(40));
        doc.is("not by the 39th", 0, x.needed(39));
        x = Doc.ruled("take 1 when waited=0;take 1 when waited=2;", 3, 3);
        doc.is("3, nobody, 3", 2, x.needed(3));
        x = Doc.ruled("take 1;");
        x.come(5, 1, 3);
        doc.is("one that is FOUND OUT does not sit", 0, x.needed(1));
        x.parts(5, 2);
        Doc.came(x, 5);
        doc.is("a part does", 1, x.needed(1));
    }

    /** The set's SIZES as THE LINES would tell them. */
    private static String lines(int set) {
        StringBuilder text = new StringBuilder();
        for (int size = 1; size <= 4; size++) {
            if ((set >> size - 1) % 2 == 1) {
                text.append("line 1 when size=").append(size).append(";");
            }
        }
        return text.toString();
    }

    private void which() {
        doc.says("WHICH: of all sets of SIZES 1 .. 4 (SIZE k counts 2 to the k - 1) that go (by what they SAY)"
            + " to LINE 1 in place of what THE LINES tell, all others to LINE 0:");
        for (int size = 1; size <= 4; size++) {
            SinglesUp x = Doc.ruled("take 1 when line=1;");
            Due.tell(x, 4, "line 2 when size>0;");
            x.comer(3, size, size, 0, 1000);
            doc.is("SIZE " + size + " alone rides from LINE 1", 1 << size - 1, x.which(1, 0));
            x.comer(3, 4, size, 3, 1000);
            doc.is("by what they SAY: " + size, 1 << size - 1, x.which(1, 0));
            doc.is("THE LINES tell as before", 2, x.come(1, 1, 0));
            doc.is("LINE 1 is empty", 0, x.line(1, 0));
        }
        for (int size = 5; size <= 8; size++) {
            SinglesUp x = Doc.ruled("take 1 when line=1;");
            Due.tell(x, 4, "line 1 when size>0;");
            x.set(0, 8);
            x.comer(3, size, size, 0, 1000);
            doc.is("SIZE " + size + " is in no set", 0, x.which(1, 0));
            doc.is("and goes to LINE 0", 8, x.which(1, 1));
            Due.tell(x, 0, "take 1 when line=0;");
            doc.is("where it may ride", 8 - size, x.which(1, 1));
        }
        SinglesUp x = Doc.ruled("take 1 when line=1;");
        x.set(0, 8);
        x.comer(0, 1, 1, 0, 1000);
        x.comer(1, 3, 3, 0, 1000);
        x.comer(2, 4, 4, 0, 1000);
        doc.is("1, 3 and 4: one and four and eight", 13, x.which(1, 0));
        x.comer(2, 2, 2, 0, 1000);
        doc.is("1, 2 and 3", 7, x.which(1, 0));
        x.comer(3, 4, 4, 0, 1000);
        x.comer(1, 1, 1, 0, 1000);
        doc.is("1, 2 and 4", 11, x.which(1, 0));
        x.comer(0, 2, 2, 0, 1000);
        x.comer(1, 2, 2, 0, 1000);
        x.comer(2, 1, 1, 0, 1000);
        x.comer(3, 3, 3, 0, 1000);
        doc.is("all SIZES, as they come", 7, x.which(1, 0));
        Doc.came(x, 4);
        doc.is("who stands stays where it stands", 1, x.line(0, 0));
        // The draws from STATE 0 are 563, 577, 494, 947; 749, 198, 764, 15: first 1, 3 and 4 come, then 2 and 4.
        x = Doc.ruled("take 1 when line=1;");
        x.set(0, 8);
        x.comer(0, 1, 1, 0, 564);
        x.comer(1, 2, 2, 0, 577);
        x.comer(2, 3, 3, 0, 495);
        x.comer(3, 4, 4, 0, 948);
        doc.is("all but 2", 13, x.which(1, 0));
        doc.is("all", 15, x.which(2, 0));
        doc.is("EMPTY by them", 2, x.which(2, 1));
    }

    private void whichTies() {
        doc.says("in n TURNS that with the least EMPTY, then the least WAIT, then the least set.");
        SinglesUp x = Doc.ruled("take 1;");
        x.comer(0, 2, 2, 0, 1000);
        doc.is("all alike: the least set", 0, x.which(5, 0));
        doc.is("its EMPTY", 10, x.which(5, 1));
        doc.is("its WAIT", 0, x.which(5, 2));
        x = Doc.ruled("take 9 when line=1;take 1;", 2);
        x.set(0, 2);
        x.comer(0, 2, 2, 0, 1000);
        // From LINE 0 the second one goes after one chair; from LINE 1 each goes at once.
        doc.is("alike in one TURN: the least set", 0, x.which(1, 0));
        doc.is("as EMPTY in two: the least WAIT", 2, x.which(2, 0));
        doc.is("EMPTY", 0, x.which(2, 1));
        doc.is("WAIT", 0, x.which(2, 2));
        x = Doc.ruled("take 1 when line=0 and taken=0;take 9 when line=1 and waited=1;");
        x.comer(0, 2, 2, 0, 1000);
        x.comer(1, 2, 2, 0, 1000);
        // From LINE 0: one, one, one. From LINE 1: nobody, two, two.
        doc.is("two TURNS, 4 EMPTY each: the least WAIT", 0, x.which(2, 0));
        doc.is("WAIT 1 rather than 2", 1, x.which(2, 2));
        doc.is("three TURNS: the least EMPTY", 2, x.which(3, 0));
        doc.is("EMPTY 4 rather than 6", 4, x.which(3, 1));
        doc.is("though WAIT is 4 rather than 2", 4, x.which(3, 2));
        for (int seed = 1; seed <= 8; seed++) {
            x = crowd(seed);
            x.run(seed);
            int n = 2 * seed;
            int[] least = null;
            x.image(true);
            for (int set = 0; set < 16; set++) {
                Due.tell(x, 4, lines(set));
                int[] now = {set, x.thought(0, 0, 4, n, 0), x.thought(0, 0, 4, n, 2)};
                if (least == null || now[1] < least[1] || now[1] == least[1] && now[2] < least[2]) {
                    least = now;
                }
            }
            x.image(false);
            for (int what = 0; what < 3; what++) {
                doc.is("as THE LINES would, crowd " + seed + ", what " + what, least[what], x.which(n, what));
            }
        }
    }
}

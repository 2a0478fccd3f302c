/** The words of the promises 14 to 31: chairs that go, what is counted of them, and what is asked. */
final class RideEdges {
    private static final int GREATEST = Integer.MAX_VALUE;
    private static final int LEAST = Integer.MIN_VALUE;

    private final Doc doc;

    RideEdges(Doc doc) {
        this.doc = doc;
    }

    void all() {
        pick();
        send();
        chair();
        run();
        last();
        count();
        best();
        look();
        heap();
        fewest();
        thought();
        price();
        till();
        together();
        needed();
        past();
        which();
        folded();
    }

    private void pick() {
        doc.promise(14);
        doc.says("A group comes to be picked: 0, or why not (1 .. 5).");
        SinglesUp x = new SinglesUp();
        x.come(1, 1, 1);
        x.come(5, 5, 0);
        x.come(2, 2, 0);
        x.come(1, 1, 2);
        x.come(1, 1, 0);
        x.seen(0, 4);
        doc.is("1: no such group", 1, x.pick(0, 5));
        doc.is("2: not SEEN", 2, x.pick(0, 4));
        doc.is("3: above left", 3, x.pick(0, 1));
        doc.is("4: children", 4, x.pick(0, 0));
        doc.is("0: picked", 0, x.pick(0, 2));
        doc.is("5: dear", 5, x.pick(0, 3));
        doc.is("1: picked already", 1, x.pick(0, 2));
        doc.is("0: children, too", 0, x.pick(0, 0));
        doc.is("two are picked", 2, x.told(6));
    }

    private void send() {
        doc.promise(15);
        doc.says("The chair is SENT with those picked: how many people sit.");
        SinglesUp x = new SinglesUp();
        doc.is("nobody", 0, x.send());
        Doc.came(x, 3, 1, 2);
        x.pick(0, 0);
        x.pick(0, 1);
        doc.is("3 and 1", 4, x.send());
        doc.sat("those picked", x, 0, 1);
        doc.is("nobody is picked any more", 0, x.told(6));
        doc.is("nobody", 0, x.send());
        x.set(0, 8);
        Doc.came(x, 1, 1, 1, 1, 1, 1);
        for (int place = 0; place < 7; place++) {
            x.pick(0, place);
        }
        doc.is("2 and six singles", 8, x.send());
        doc.is("seven groups", 7, x.last(0));
        doc.is("all SEATS are free then", 0, x.told(6));
        Doc.came(x, 8);
        doc.is("8 of 8", 0, x.pick(0, 0));
        doc.is("8", 8, x.send());
    }

    private void chair() {
        doc.promise(16);
        doc.says("A CHAIR comes, is FILLED and goes (nobody comes; nobody is picked any more): how many people sit.");
        SinglesUp x = Doc.ruled("take 1;", 2, 1);
        x.comer(0, 1, 1, 0, 1000);
        x.pick(0, 1);
        doc.is("2 and 1", 3, x.chair());
        doc.is("nobody came", 2, x.told(7));
        doc.is("no DRAW", 0, x.told(8));
        doc.is("nobody is picked", 0, x.told(6));
        doc.is("nobody", 0, x.chair());
        doc.is("it goes all the same", 2, x.count(0));
        Doc.came(x, 5);
        x.parts(5, 1);
        doc.is("a part of 4", 4, x.chair());
        doc.is("the rest of 1", 1, x.chair());
        x.come(2, 1, 3);
        x.set(0, 2);
        Doc.came(x, 1);
        x.pick(0, 1);
        doc.is("2, who said 1", 2, x.chair());
        doc.is("1 of another chair", 1, x.chair());
        x = Doc.ruled("take 1;");
        x.come(5, 1, 0);
        doc.is("one that is FOUND OUT does not sit", 0, x.chair());
    }

    private void run() {
        doc.promise(17);
        doc.says("TURNS (1 .. 60; nobody is picked any more): how many people sat;");
        SinglesUp x = Doc.ruled("take 1;", 1);
        x.comer(0, 3, 3, 0, 1000);
        x.pick(0, 0);
        doc.is("one TURN: 1 and 3", 4, x.run(1));
        doc.is("one CHAIR", 1, x.count(0));
        doc.is("nobody is picked", 0, x.told(6));
        doc.is("two: 3 and 3", 6, x.run(2));
        doc.is("60", 180, x.run(60));
        doc.is("63 CHAIRS", 63, x.count(0));
        doc.is("64 came", 64, x.told(7));
        for (int n = 1; n <= 60; n++) {
            x = new SinglesUp();
            doc.is("nobody in " + n, 0, x.run(n));
            doc.is(n + " CHAIRS", n, x.count(0));
        }

        doc.says("NONE if one can't be.");
        x = Doc.ruled("take 1;", 1);
        x.comer(0, 3, 3, 0, 1000);
        x.pick(0, 0);
        int[] wrong = {0, 61, -1, GREATEST, LEAST};
        for (int n : wrong) {
            doc.is("run(" + n + ")", -1, x.run(n));
        }
        doc.is("no CHAIR", 0, x.count(0));
        doc.is("nobody came", 1, x.told(7));
        doc.is("no DRAW", 0, x.told(8));
        doc.is("who is picked stays", 1, x.told(6));
    }

    private void last() {
        doc.promise(18);
        doc.says("Of the chair that went last: what 0 how many groups sat, 1 seats left, 10 + i the NUMBER, 20 + i what"
            + " sat of the i-th (in the order in which they came to sit).");
        SinglesUp x = Doc.ruled("take place;", 5, 2, 1, 5);
        x.parts(5, 3);
        x.set(0, 6);
        x.chair();
        int[] told = {2, 0};
        for (int what = 0; what < 2; what++) {
            doc.is("5 and 1: what " + what, told[what], x.last(what));
        }
        doc.is("the NUMBER of the first", 3, x.last(10));
        doc.is("of the second", 2, x.last(11));
        doc.is("5 sat", 5, x.last(20));
        doc.is("1 sat", 1, x.last(21));
        Due.tell(x, 0, "take 1+place;");
        x.seen(0, 2);
        x.chair();
        doc.is("2, then 3 of 5", 2, x.last(0));
        doc.is("1 seat left", 1, x.last(1));
        doc.is("the first", 1, x.last(10));
        doc.is("the part last", 0, x.last(11));
        doc.is("what sat of it", 3, x.last(21));
        x.chair();
        doc.is("the rest has its NUMBER", 0, x.last(10));
        doc.is("2 sat", 2, x.last(20));
        Doc.came(x, 1, 1);
        x.pick(0, 1);
        x.pick(0, 0);
        x.send();
        doc.sat("by hand, as they were picked", x, 5, 4);
        x.chair();
        doc.is("nobody", 0, x.last(0));
        doc.is("6 seats left", 6, x.last(1));
        x.set(0, 8);
        Doc.came(x, 1, 1, 1, 1, 1, 1, 1, 1);
        Due.tell(x, 0, "take 9-place;");
        x.seen(0, 8);
        x.chair();
        doc.is("eight groups", 8, x.last(0));
        doc.is("no seats left", 0, x.last(1));
        for (int i = 0; i < 8; i++) {
            doc.is("NUMBER, " + i, 6 + i, x.last(10 + i));
            doc.is("sat, " + i, 1, x.last(20 + i));
        }

        doc.says("NONE if there is none such, or another what.");
        int[] none = {-1, 2, 3, 9, 18, 19, 28, 29, 30, 40, 110, GREATEST, LEAST};
        for (int what : none) {
            doc.is("of eight, what " + what, -1, x.last(what));
        }
        Doc.came(x, 3);
        x.chair();
        doc.is("one sat", 3, x.last(20));
        for (int i = 1; i < 8; i++) {
            doc.is("no NUMBER, " + i, -1, x.last(10 + i));
            doc.is("none sat, " + i, -1, x.last(20 + i));
        }
        x.chair();
        doc.is("none sat", -1, x.last(10));
        doc.is("none sat", -1, x.last(20));
        x = new SinglesUp();
        for (int what = -1; what <= 30; what++) {
            doc.is("no chair went, what " + what, -1, x.last(what));
        }
    }

    private void count() {
        doc.promise(19);
        doc.says("What 0 CHAIRS, 1 EMPTY, 2 PEOPLE, 3 TIME, 4 STOPS, 5 FOUND, 6 AWAY, 10 + k GONE, 20 + k WAIT,"
            + " 30 + k LONGEST, 40 + k MEAN (100 WAIT by GONE; NONE without GONE) of SIZE k (1 .. 8).");
        SinglesUp x = Doc.ruled("take 9 when sort=3;take 1 when waited>0;");
        int[] first = {0, 0, 0, 0, 0, 0, 0};
        for (int what = 0; what <= 6; what++) {
            doc.is("at first, what " + what, first[what], x.count(what));
        }
        for (int k = 1; k <= 8; k++) {
            doc.is("GONE of " + k + " at first", 0, x.count(10 + k));
            doc.is("WAIT of " + k + " at first", 0, x.count(20 + k));
            doc.is("LONGEST of " + k + " at first", 0, x.count(30 + k));
            doc.is("MEAN of " + k + " without GONE", -1, x.count(40 + k));
        }
        x.set(2, 5);
        for (int i = 0; i < 39; i++) {
            Doc.came(x, 2);
        }
        x.come(7, 3, 3);
        Doc.came(x, 2, 2);
        x.seen(0, 24);
        x.set(3, 1000);
        x.chair();
        x.come(7, 3, 3);
        x.pick(0, 23);
        x.send();
        x.set(3, 0);
        x.seen(0, 2);
        x.chair();
        x.seen(0, 1);
        x.chair();
        // Nobody; one by hand that waited once; two that waited twice; one that waited thrice.
        int[] then = {4, 4 + 2 + 0 + 2, 8, 4 * 6 + 2 * 5, 2, 0, 3};
        for (int what = 0; what <= 6; what++) {
            doc.is("then, what " + what, then[what], x.count(what));
        }
        doc.is("GONE of 2", 4, x.count(12));
        doc.is("WAIT of 2", 1 + 2 + 2 + 3, x.count(22));
        doc.is("LONGEST of 2", 3, x.count(32));
        doc.is("MEAN of 2", 200, x.count(42));
        x = Doc.ruled("take 9 when sort=3;", 1);
        x.come(5, 4, 3);
        x.chair();
        doc.is("one is FOUND", 1, x.count(5));
        doc.is("none has GONE", -1, x.count(45));
        x = Doc.ruled("take 1;", 8);
        x.set(0, 8);
        x.chair();
        doc.is("MEAN of one that did not wait", 0, x.count(48));
        doc.is("none of 1", -1, x.count(41));

        doc.says("NONE for another what.");
        int[] none = {-1, 7, 8, 9, 10, 19, 20, 29, 30, 39, 40, 49, 50, 51, 58, 100, 111, GREATEST, LEAST};
        for (int what : none) {
            doc.is("what " + what, -1, x.count(what));
        }
    }

    private void best() {
        doc.promise(20);
        doc.says("BEST filling what 0 how many seats it fills, 1 how many groups, 10 + i 100 LINE + place of the i-th"
            + " of them.");
        SinglesUp x = new SinglesUp();
        doc.is("nobody", 0, x.best(0));
        doc.is("no group", 0, x.best(1));
        Due.tell(x, 4, "line 5 when size=1;line 4 when size=2;");
        Doc.came(x, 8, 5, 3, 2, 2, 1, 1);
        x.set(0, 7);
        doc.is("5 and 2, as 3, 2 and 2", 7, x.best(0));
        doc.is("two groups", 2, x.best(1));
        doc.is("5 of LINE 0", 1, x.best(10));
        doc.is("the first 2 of LINE 4", 400, x.best(11));
        x.set(0, 8);
        doc.is("8", 0, x.best(10));
        x.set(0, 2);
        doc.is("2 of LINE 4", 400, x.best(10));
        x.pick(4, 0);
        x.send();
        x.pick(4, 0);
        x.send();
        doc.is("1 and 1 of LINE 5", 500, x.best(10));
        doc.is("then", 501, x.best(11));
        x = new SinglesUp();
        Due.tell(x, 4, "line 5 when 1=1;");
        x.seen(5, 24);
        for (int i = 0; i < 24; i++) {
            x.come(i == 23 ? 4 : 5, 1, 0);
        }
        doc.is("the last place that is SEEN", 523, x.best(10));

        doc.says("NONE if there is none such, or another what.");
        int[] none = {-1, 2, 9, 11, 12, 17, 18, 20, 100, GREATEST, LEAST};
        for (int what : none) {
            doc.is("what " + what, -1, x.best(what));
        }
        doc.is("no first one", -1, new SinglesUp().best(10));
    }

    private void look() {
        doc.promise(21);
        doc.says("LOOK of a LINE;");
        SinglesUp x = Doc.ruled("", 1, 3);
        x.seen(0, 1);
        doc.is("3 more", 3, x.look(0));
        x.seen(1, 1);
        doc.is("nobody in LINE 1", 0, x.look(1));
        x = new SinglesUp();
        for (int i = 0; i < 24; i++) {
            x.come(i == 23 ? 4 : 5, 1, 0);
        }
        x.seen(0, 23);
        doc.is("the 24th", 4, x.look(0));

        doc.says("NONE if one can't be (24 are SEEN).");
        x.seen(0, 24);
        doc.is("24 are SEEN", -1, x.look(0));
        doc.is("LINE 6", -1, x.look(6));
        doc.is("LINE -1", -1, x.look(-1));
        doc.is("the greatest LINE", -1, x.look(GREATEST));
        doc.is("the least LINE", -1, x.look(LEAST));
        for (int line = 0; line <= 5; line++) {
            x = new SinglesUp();
            x.seen(line, 24);
            for (int other = 0; other <= 5; other++) {
                doc.is("LINE " + other + ", 24 of LINE " + line + " are SEEN", other == line ? -1 : 0, x.look(other));
            }
        }
    }

    private void heap() {
        doc.promise(22);
        doc.says("HEAP: a count of a SIZE: true;");
        SinglesUp x = new SinglesUp();
        x.set(0, 8);
        for (int size = 1; size <= 8; size++) {
            for (int n = 9; n >= 0; n--) {
                doc.is(n + " of " + size, true, x.heap(size, n));
                doc.is("is told", n == 0 ? 0 : Math.min(n, 8 / size), x.fewest(size));
            }
        }

        doc.says("false if one can't be, or there would be more than 12.");
        x.heap(4, 3);
        int[][] wrong = {{0, 1}, {9, 1}, {-1, 1}, {0, 0}, {9, 0}, {1, -1}, {1, 10}, {GREATEST, 1}, {LEAST, 1},
            {1, GREATEST}, {1, LEAST}, {4, 10}, {4, -1}};
        for (int[] row : wrong) {
            doc.is("heap(" + row[0] + ", " + row[1] + ")", false, x.heap(row[0], row[1]));
        }
        doc.is("4, 4 and 4 still", 2, x.fewest(0));
        doc.is("12", true, x.heap(1, 9));
        doc.is("13", false, x.heap(2, 1));
        doc.is("13 of the same", false, x.heap(4, 4));
        doc.is("12 of less", true, x.heap(4, 2));
        doc.is("12 again", true, x.heap(2, 1));
        doc.is("13 again", false, x.heap(8, 1));
        doc.is("0 are no more", true, x.heap(8, 0));
        doc.is("19 people", 3, x.fewest(0));
    }

    private void fewest() {
        doc.promise(23);
        doc.says("FEWEST what 0 how many chairs, k 1 .. 8 the count of SIZE k of FIRST (0 without any chair).");
        SinglesUp x = new SinglesUp();
        for (int what = 0; what <= 8; what++) {
            doc.is("without any, what " + what, 0, x.fewest(what));
        }
        x.heap(2, 3);
        x.heap(1, 2);
        int[] told = {2, 0, 2, 0, 0, 0, 0, 0, 0};
        for (int what = 0; what <= 8; what++) {
            doc.is("2 2 and 2 1 1, what " + what, told[what], x.fewest(what));
        }
        for (int size = 1; size <= 8; size++) {
            x = new SinglesUp();
            x.set(0, 8);
            x.heap(size, 1);
            for (int what = 1; what <= 8; what++) {
                doc.is("one of " + size + ", what " + what, what == size ? 1 : 0, x.fewest(what));
            }
        }

        doc.says("NONE if there is none, or another what.");
        int[] none = {-1, 9, 10, GREATEST, LEAST};
        for (int what : none) {
            doc.is("what " + what, -1, x.fewest(what));
        }
        x.set(0, 7);
        for (int what = 0; what <= 8; what++) {
            doc.is("8 above 7, what " + what, -1, x.fewest(what));
        }
        x.heap(1, 1);
        doc.is("with a single, too", -1, x.fewest(0));
        doc.is("of which there is no FIRST", -1, x.fewest(1));
    }

    private void thought() {
        doc.promise(24);
        doc.says("IN THOUGHT by a RULE, with a BOUND (0 .. 99), SEATS (2 .. 8), n TURNS: what 0 EMPTY, 1 PEOPLE,"
            + " 2 WAIT, 3 AWAY, 4 FOUND, 5 the greatest LONGEST.");
        SinglesUp x = new SinglesUp();
        Due.tell(x, 3, "take 9 when line=1;take 1 when waited=1;");
        Due.tell(x, 4, "line 1 when sort=3;");
        for (int i = 0; i < 40; i++) {
            Doc.came(x, 5);
        }
        x.comer(2, 7, 4, 3, 1000);
        x.seen(0, 1);
        // Each comer is FOUND OUT on 4 SEATS and goes away, for LINE 0 is full; on 7 it sits.
        int[] four = {8, 0, 0, 2, 2, 0};
        int[] seven = {0, 14, 0, 0, 0, 0};
        // Without comers nobody sits, then a 5 that has waited.
        int[] five = {5, 5, 1, 0, 0, 1};
        for (int what = 0; what <= 5; what++) {
            doc.is("on 4, what " + what, four[what], x.thought(3, 0, 4, 2, what));
            doc.is("on 7, what " + what, seven[what], x.thought(3, 0, 7, 2, what));
        }
        x.comer(2, 7, 4, 3, 0);
        for (int what = 0; what <= 5; what++) {
            doc.is("on 5, what " + what, five[what], x.thought(3, 0, 5, 2, what));
        }

        doc.says("NONE if one can't be, or another what.");
        int[][] wrong = {{-1, 0, 4, 1, 0}, {4, 0, 4, 1, 0}, {0, -1, 4, 1, 0}, {0, 100, 4, 1, 0}, {0, 0, 1, 1, 0},
            {0, 0, 9, 1, 0}, {0, 0, 4, 0, 0}, {0, 0, 4, 41, 0}, {0, 0, 4, 1, -1}, {0, 0, 4, 1, 6},
            {GREATEST, 0, 4, 1, 0}, {0, GREATEST, 4, 1, 0}, {0, 0, GREATEST, 1, 0}, {0, 0, 4, GREATEST, 0},
            {0, 0, 4, 1, GREATEST}, {LEAST, 0, 4, 1, 0}, {0, LEAST, 4, 1, 0}, {0, 0, LEAST, 1, 0}, {0, 0, 4, LEAST, 0},
            {0, 0, 4, 1, LEAST}};
        for (int[] row : wrong) {
            doc.is("thought(" + row[0] + ", " + row[1] + ", " + row[2] + ", " + row[3] + ", " + row[4] + ")", -1,
                x.thought(row[0], row[1], row[2], row[3], row[4]));
        }
        doc.is("all at their least", 2, x.thought(0, 0, 2, 1, 0));
        doc.is("all at their most", 320, x.thought(2, 99, 8, 40, 0));
    }

    private void price() {
        doc.promise(25);
        doc.says("PRICE of a BOUND in n TURNS (the RULE IN FORCE, SEATS as told);");
        SinglesUp x = Doc.ruled("take size-1;", 1, 4, 4, 4);
        Due.tell(x, 1, "take 5-size;");
        doc.is("4, 1, 4 rather than 4, 4, 4", 3, x.price(1, 3));
        doc.is("one TURN", 0, x.price(1, 1));
        doc.is("40", -1, x.price(1, 40));
        x.set(5, 1);
        doc.is("RULE 1: the single goes at once", 0, x.price(1, 3));
        x.set(5, 0);
        x.set(0, 8);
        doc.is("8 SEATS: 8, 5 and 0 rather than 8, 4, 0", -1, x.price(1, 3));
        x.set(0, 4);
        x.comer(0, 4, 4, 0, 1000);
        doc.is("with COMERS", 3, x.price(1, 40));
        doc.is("BOUND 99", 0, x.price(99, 40));

        doc.says("NONE - 999999 if one can't be.");
        int[][] wrong = {{-1, 3}, {100, 3}, {1, 0}, {1, 41}, {1, -1}, {GREATEST, 3}, {LEAST, 3}, {1, GREATEST},
            {1, LEAST}};
        for (int[] row : wrong) {
            doc.is("price(" + row[0] + ", " + row[1] + ")", -1000000, x.price(row[0], row[1]));
        }
    }

    private void till() {
        doc.promise(26);
        doc.says("TILL of a group;");
        SinglesUp x = new SinglesUp();
        Due.tell(x, 0, "take 1;");
        Due.tell(x, 4, "line 5 when sort=3;");
        Doc.came(x, 3, 2);
        x.come(4, 4, 3);
        doc.is("the first", 1, x.till(0, 0));
        doc.is("the second", 2, x.till(0, 1));
        doc.is("of LINE 5", 3, x.till(5, 0));
        x.set(0, 8);
        doc.is("on 8 SEATS", 2, x.till(5, 0));

        doc.says("NONE if it is not within 40, or there is none.");
        int[][] none = {{0, 2}, {5, 1}, {1, 0}, {0, -1}, {0, 40}, {-1, 0}, {6, 0}, {GREATEST, 0}, {LEAST, 0},
            {0, GREATEST}, {0, LEAST}};
        for (int[] row : none) {
            doc.is("till(" + row[0] + ", " + row[1] + ")", -1, x.till(row[0], row[1]));
        }
        x.set(0, 2);
        doc.is("3 on 2, never", -1, x.till(0, 0));
        x = Doc.ruled("take 1 when waited=39;take 1 when waited=40 and size=2;", 1, 2);
        x.set(4, 99);
        doc.is("on the 40th", 40, x.till(0, 0));
        x = Doc.ruled("take 1 when waited=40;", 1);
        doc.is("on the 41st", -1, x.till(0, 0));
        x.chair();
        doc.is("on the 40th from then", 40, x.till(0, 0));
    }

    private void together() {
        doc.promise(27);
        doc.says("TOGETHER of two groups, the first and the second: what 0 after how many CHAIRS (NONE: not within 40),"
            + " 1 1 if IT PAYS, else 0.");
        SinglesUp x = Doc.ruled("take 9-place;", 3, 2, 2, 1);
        doc.is("2 and 2", 2, x.together(0, 1, 0, 2, 0));
        doc.is("IT PAYS", 1, x.together(0, 1, 0, 2, 1));
        doc.is("3 and 1, at the place of 1", 2, x.together(0, 0, 0, 3, 0));
        doc.is("does not pay", 0, x.together(0, 0, 0, 3, 1));
        doc.is("1 and 3, at the place of 3", 1, x.together(0, 3, 0, 0, 0));
        doc.is("IT PAYS", 1, x.together(0, 3, 0, 0, 1));
        doc.is("5 on 4", -1, x.together(0, 0, 0, 1, 0));
        doc.is("does not pay", 0, x.together(0, 0, 0, 1, 1));
        x = Doc.ruled("take 1 when waited=39;", 1, 1);
        doc.is("on the 40th", 40, x.together(0, 0, 0, 1, 0));
        doc.is("as late as both", 1, x.together(0, 0, 0, 1, 1));
        x = Doc.ruled("take 1 when waited=40;", 1, 1);
        doc.is("on the 41st: not within 40", -1, x.together(0, 0, 0, 1, 0));
        doc.is("nor does it pay", 0, x.together(0, 0, 0, 1, 1));

        doc.says("NONE - 1 if they can't be, or another what.");
        int[][] wrong = {{0, 0, 0, 0, 0}, {0, 0, 0, 2, 0}, {0, 2, 0, 0, 0}, {0, -1, 0, 0, 0}, {0, 0, 0, -1, 0},
            {-1, 0, 0, 0, 0}, {6, 0, 0, 0, 0}, {0, 0, -1, 0, 0}, {0, 0, 6, 0, 0}, {1, 0, 0, 0, 0}, {0, 0, 1, 0, 0},
            {0, 0, 0, 1, -1}, {0, 0, 0, 1, 2}, {0, 0, 0, 1, GREATEST}, {0, 0, 0, 1, LEAST}, {GREATEST, 0, 0, 1, 0},
            {0, GREATEST, 0, 1, 0}, {0, 0, LEAST, 1, 0}, {0, 0, 0, LEAST, 0}, {0, 40, 0, 0, 0}, {0, 0, 0, 40, 0}};
        for (int[] row : wrong) {
            doc.is("together(" + row[0] + ", " + row[1] + ", " + row[2] + ", " + row[3] + ", " + row[4] + ")", -2,
                x.together(row[0], row[1], row[2], row[3], row[4]));
        }
    }

    private void needed() {
        doc.promise(28);
        doc.says("NEEDED for n CHAIRS;");
        SinglesUp x = Doc.ruled("take 9-place;", 3, 3, 4);
        doc.is("3", 1, x.needed(1));
        doc.is("3, 3", 2, x.needed(2));
        doc.is("3, 3, 4", 2, x.needed(3));
        doc.is("nobody then", 2, x.needed(40));
        x.set(0, 8);
        doc.is("3 and 3; 4", 2 + 4, x.needed(40));

        doc.says("NONE if one can't be.");
        int[] wrong = {0, 41, -1, GREATEST, LEAST};
        for (int n : wrong) {
            doc.is("needed(" + n + ")", -1, x.needed(n));
        }
    }

    private void past() {
        doc.promise(29);
        doc.says("PAST of the i-th chair back (0 .. 59) what 0 seats left, 1 groups, 2 TIME.");
        SinglesUp x = Doc.ruled("take 1;", 1, 1, 1);
        x.chair();
        x.set(0, 7);
        x.send();
        int[][] told = {{7, 0, 12}, {1, 3, 6}};
        for (int i = 0; i < 2; i++) {
            for (int what = 0; what <= 2; what++) {
                doc.is("the " + i + "th back, what " + what, told[i][what], x.past(i, what));
            }
        }
        x.run(58);
        doc.is("the 59th back", 3, x.past(59, 1));

        doc.says("NONE if there is none such, or another what.");
        int[][] none = {{60, 0}, {60, 2}, {-1, 0}, {0, 3}, {0, -1}, {59, 3}, {GREATEST, 0}, {LEAST, 0}, {0, GREATEST},
            {0, LEAST}};
        for (int[] row : none) {
            doc.is("past(" + row[0] + ", " + row[1] + ")", -1, x.past(row[0], row[1]));
        }
        x.run(60);
        doc.is("no 60th back, though 120 went", -1, x.past(60, 0));
        x = new SinglesUp();
        for (int went = 0; went <= 3; went++) {
            doc.is(went + " went: the last of them", went == 0 ? -1 : 4, x.past(went - 1, 0));
            doc.is(went + " went: none before", -1, x.past(went, 0));
            x.chair();
        }
    }

    private void which() {
        doc.promise(30);
        doc.says("WHICH in n TURNS (1 .. 20) what 0 the set, 1 EMPTY, 2 WAIT.");
        SinglesUp x = Doc.ruled("take 1 when line=1 and waited=1;");
        x.comer(0, 3, 3, 0, 1000);
        for (int n = 1; n <= 20; n++) {
            doc.is("n " + n + ": the set", n == 1 ? 0 : 4, x.which(n, 0));
            doc.is("n " + n + ": EMPTY", 4 + (n - 1), x.which(n, 1));
            doc.is("n " + n + ": WAIT", n - 1, x.which(n, 2));
        }
        x.run(3);
        doc.is("EMPTY that comes to it alone", 4, x.which(1, 1));

        doc.says("NONE if one can't be, or another what.");
        int[][] wrong = {{0, 0}, {21, 0}, {-1, 0}, {1, -1}, {1, 3}, {21, 1}, {0, 2}, {GREATEST, 0}, {LEAST, 0},
            {1, GREATEST}, {1, LEAST}};
        for (int[] row : wrong) {
            doc.is("which(" + row[0] + ", " + row[1] + ")", -1, x.which(row[0], row[1]));
        }
    }

    private void folded() {
        doc.promise(31);
        doc.says("FOLDED with W: the row of the group at a place; place NONE: how many rows.");
        SinglesUp x = new SinglesUp();
        Due.tell(x, 4, "line 5 when sort=3;");
        Doc.came(x, 3, 2, 1, 8);
        x.come(2, 1, 3);
        int[] rows = {0, 0, 1, 2, 4};
        for (int place = 0; place < 4; place++) {
            doc.is("place " + place, rows[place], x.folded(0, 5, place));
        }
        doc.is("how many", 4, x.folded(0, 5, -1));
        doc.is("LINE 5", 0, x.folded(5, 1, 0));
        doc.is("how many of LINE 5", 2, x.folded(5, 1, -1));
        doc.is("how many of nobody", 0, x.folded(1, 1, -1));
        doc.is("W 40", 1, x.folded(0, 40, -1));

        doc.says("NONE if one can't be.");
        int[][] wrong = {{-1, 5, -1}, {6, 5, -1}, {0, 0, -1}, {0, 41, -1}, {0, 5, -2}, {0, 5, 4}, {0, 5, 40},
            {1, 5, 0}, {6, 5, 0}, {0, 0, 0}, {0, 41, 0}, {0, -5, 0}, {GREATEST, 5, 0}, {LEAST, 5, 0},
            {0, GREATEST, 0}, {0, LEAST, 0}, {0, 5, GREATEST}, {0, 5, LEAST}};
        for (int[] row : wrong) {
            doc.is("folded(" + row[0] + ", " + row[1] + ", " + row[2] + ")", -1, x.folded(row[0], row[1], row[2]));
        }
    }
}

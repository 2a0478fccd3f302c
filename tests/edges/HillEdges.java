/** The words of the Terms before part 2: draws and quotients, chairs, groups, LINES, what is SEEN, PARTS. */
final class HillEdges {
    private final Doc doc;

    HillEdges(Doc doc) {
        this.doc = doc;
    }

    void all() {
        doc.section("## What it is");
        manyCalls();
        doc.section("## Terms");
        quotients();
        draws();
        doc.section("==== 1.");
        seats();
        stops();
        bound();
        groups();
        lines();
        seen();
        parts();
    }

    private void manyCalls() {
        doc.says("An object is used for at most 512 calls after it has been made; what later calls answer is free.");
        SinglesUp x = new SinglesUp();
        for (int i = 1; i <= 510; i++) {
            x.chair();
        }
        doc.is("the 511th call", 0, x.state(77));
        doc.is("the 512th", 510, x.count(0));
        // A RULE is told by four calls.
        x = Doc.ruled("take 1;");
        x.comer(0, 4, 4, 0, 1000);
        for (int i = 6; i <= 510; i++) {
            x.run(60);
        }
        doc.is("the 511th, after 505 runs of 60", 505 * 60, x.count(0));
        doc.is("the 512th", 505 * 240, x.count(2));
    }

    private void quotients() {
        doc.says("Quotients go downwards (to the lesser one).");
        SinglesUp x = Doc.ruled("take 1 when taken<2;", 1, 1, 1);
        x.chair();
        x.chair();
        doc.is("100 by 3", 33, x.count(41));
        x = Doc.ruled("take 1 when waited=1; take 1 when taken+place=0;", 1, 1, 1);
        x.chair();
        doc.is("0 by 1", 0, x.count(41));
        x.chair();
        doc.is("200 by 3", 66, x.count(41));
        Doc.came(x, 1);
        x.send();
        x.chair();
        doc.is("300 by 4", 75, x.count(41));
    }

    /** The STATE after which a DRAW makes it this one. */
    private static int before(int state) {
        return (state - 1013904223) * -18851643;
    }

    private void draws() {
        doc.says("There is one STATE of draws (an int, 0 at first);");
        SinglesUp x = new SinglesUp();
        doc.is("told at first", 0, x.told(8));
        x.comer(0, 1, 1, 0, 1);
        x.comer(7, 1, 1, 0, 1);
        x.set(3, 1);
        x.run(1);
        doc.is("COMERS and FALLS draw from one: three draws", -775096599, x.told(8));
        doc.is("of two ints the greatest", -775096599, x.state(Integer.MAX_VALUE));
        doc.is("and the least", Integer.MAX_VALUE, x.state(Integer.MIN_VALUE));
        doc.is("are told", Integer.MIN_VALUE, x.told(8));

        doc.says("a DRAW of m: it becomes 1664525 times itself + 1013904223 (ints, which wrap),");
        int[][] becomes = {{0, 1013904223}, {1, 1015568748}, {2, 1017233273}, {1000, -1616538073}, {-1, 1012239698},
            {123456789, 920370032}, {Integer.MAX_VALUE, -1135243950}, {Integer.MIN_VALUE, -1133579425}};
        for (int[] row : becomes) {
            x = new SinglesUp();
            x.set(3, 1);
            x.state(row[0]);
            x.send();
            doc.is("after " + row[0], row[1], x.told(8));
        }

        doc.says("then it is its highest 24 bits (without sign) modulo m.");
        // The STATE after the DRAW, and the DRAW of 1000.
        int[][] drawn = {{-1, 215}, {Integer.MIN_VALUE, 608}, {Integer.MAX_VALUE, 607}, {255, 0}, {256, 1}, {511, 1},
            {256 * 998 + 255, 998}, {256 * 999 + 255, 999}, {256 * 1000, 0}, {256 * 1001, 1}, {-256, 215}, {-257, 214}};
        for (int[] row : drawn) {
            x = new SinglesUp();
            x.set(3, row[1]);
            x.state(before(row[0]));
            x.send();
            doc.is(row[1] + " is not below " + row[1], 0, x.count(4));
            x.set(3, row[1] + 1);
            x.state(before(row[0]));
            x.send();
            doc.is("the STATE", row[0], x.told(8));
            doc.is(row[1] + " is below the next", 1, x.count(4));
            x.comer(3, 1, 1, 0, row[1]);
            x.state(before(row[0]));
            x.set(3, 0);
            x.run(1);
            doc.is("nobody comes by " + row[1], 0, x.line(0, 0));
            x.comer(3, 1, 1, 0, row[1] + 1);
            x.state(before(row[0]));
            x.run(1);
            doc.is("one comes by the next", 1, x.line(0, 0));
        }
    }

    private void seats() {
        doc.says("A chair has SEATS 2 .. 8 (4 at first),");
        SinglesUp x = Doc.ruled("take 1;", 1, 1, 1, 1, 1, 1, 1, 1, 1);
        doc.is("four at first", 4, x.chair());
        for (int seats = 2; seats <= 8; seats++) {
            x = Doc.ruled("take 1;", 1, 1, 1, 1, 1, 1, 1, 1, 1);
            doc.is("SEATS " + seats, true, x.set(0, seats));
            doc.is("so many sit", seats, x.chair());
            doc.is("none is EMPTY", 0, x.last(1));
            doc.is("1 SEAT", false, x.set(0, 1));
            doc.is("9 SEATS", false, x.set(0, 9));
            doc.is("0 SEATS", false, x.set(0, 0));
            doc.is("SEATS below 0", false, x.set(0, -4));
            doc.is("as before", seats, x.told(0));
        }

        doc.says("comes every SECONDS 1 .. 99 (6 at first);");
        x = new SinglesUp();
        x.chair();
        doc.is("6 at first", 6, x.count(3));
        doc.is("1", true, x.set(1, 1));
        x.chair();
        doc.is("1 more", 7, x.count(3));
        doc.is("99", true, x.set(1, 99));
        x.chair();
        doc.is("99 more", 106, x.count(3));
        doc.is("0", false, x.set(1, 0));
        doc.is("100", false, x.set(1, 100));
        x.chair();
        doc.is("99 again", 205, x.count(3));
    }

    private void stops() {
        doc.says("HALT 0 .. 999 (40 at first) are the seconds of a stop,");
        SinglesUp x = new SinglesUp();
        x.set(3, 1000);
        x.chair();
        doc.is("40 at first", 46, x.count(3));
        doc.is("0", true, x.set(2, 0));
        x.chair();
        doc.is("a stop of 0", 52, x.count(3));
        doc.is("is a stop", 2, x.count(4));
        doc.is("999", true, x.set(2, 999));
        x.chair();
        doc.is("999 more", 52 + 1005, x.count(3));
        doc.is("-1", false, x.set(2, -1));
        doc.is("1000", false, x.set(2, 1000));
        x.chair();
        doc.is("999 again", 52 + 2010, x.count(3));
        x.set(3, 0);
        x.chair();
        doc.is("without a stop", 52 + 2016, x.count(3));

        doc.says("of which the chance is FALLS 0 .. 1000 (of a thousand; 0 at first).");
        x = new SinglesUp();
        x.run(60);
        doc.is("none at first", 0, x.count(4));
        doc.is("and no draw", 0, x.told(8));
        doc.is("1000", true, x.set(3, 1000));
        x.run(60);
        doc.is("each time", 60, x.count(4));
        doc.is("1001", false, x.set(3, 1001));
        doc.is("-1", false, x.set(3, -1));
        x.chair();
        doc.is("still each time", 61, x.count(4));
        doc.is("0", true, x.set(3, 0));
        x.run(60);
        doc.is("none again", 61, x.count(4));
        // Twelve draws from STATE 0: 563, 577, 494, 947, 749, 198, 764, 15, 102, 943, 835, 297.
        int[][] falls = {{1, 0}, {15, 0}, {16, 1}, {102, 1}, {103, 2}, {198, 2}, {199, 3}, {500, 5}, {836, 10},
            {943, 10}, {944, 11}, {947, 11}, {948, 12}, {999, 12}};
        for (int[] row : falls) {
            x = new SinglesUp();
            x.set(3, row[0]);
            x.run(12);
            doc.is("of twelve with FALLS " + row[0], row[1], x.count(4));
        }
    }

    private void bound() {
        doc.says("BOUND 0 .. 99 (0: none, as at first).");
        SinglesUp x = Doc.ruled("take size-1;", 1);
        x.comer(0, 2, 2, 0, 1000);
        x.run(60);
        doc.is("passed 60 times, none at first", 60, x.group(0, 0, 5));
        doc.is("99", true, x.set(4, 99));
        x.run(38);
        doc.is("passed 98 times", 98, x.group(0, 0, 5));
        x.run(1);
        doc.is("98 is below 99", 99, x.group(0, 0, 5));
        x.image(true);
        x.run(1);
        doc.is("99 is not", 0, x.last(10));
        x.image(false);
        doc.is("100", false, x.set(4, 100));
        doc.is("-1", false, x.set(4, -1));
        doc.is("99 stays", 99, x.told(4));
        doc.is("0", true, x.set(4, 0));
        x.run(40);
        doc.is("none again", 139, x.group(0, 0, 5));
        doc.is("1", true, x.set(4, 1));
        x.run(1);
        doc.is("is reached", 0, x.last(10));
        x = Doc.ruled("take size-1;", 1);
        x.set(4, 1);
        x.chair();
        doc.is("1, but not passed yet", 0, x.last(0));
    }

    private void groups() {
        doc.says("Groups have a NUMBER (0, 1, .. as they come),");
        SinglesUp x = Doc.ruled("take 1;", 1, 1);
        doc.is("none comes", -2, x.come(0, 0, 0));
        Doc.came(x, 4);
        doc.stand("as they come", x, 0, 0, 1, 2);
        x.chair();
        Doc.came(x, 1);
        doc.stand("on, when some have gone", x, 0, 2, 3);
        x.comer(0, 4, 4, 0, 1000);
        x.run(1);
        doc.stand("COMERS, too", x, 0, 3, 4);
        x = new SinglesUp();
        Due.tell(x, 4, "line 4 when size=2; line 1 when size=3;");
        Doc.came(x, 3, 2, 1, 2);
        doc.stand("over all LINES", x, 1, 0);
        doc.stand("over all LINES", x, 4, 1, 3);
        doc.stand("over all LINES", x, 0, 2);

        doc.says("a SIZE 1 .. 8,");
        x = new SinglesUp();
        doc.is("0", -2, x.come(0, 1, 0));
        doc.is("9", -2, x.come(9, 1, 0));
        doc.is("below 0", -2, x.come(-1, 1, 0));
        doc.is("the greatest int", -2, x.come(Integer.MAX_VALUE, 1, 0));
        for (int size = 1; size <= 8; size++) {
            doc.is("SIZE " + size, 0, x.come(size, 1, 0));
            doc.is("is told", size, x.group(0, size - 1, 1));
        }
        doc.is("eight came", 8, x.told(7));

        doc.says("a size that they SAY (1 .. SIZE),");
        for (int size = 1; size <= 8; size++) {
            x = new SinglesUp();
            doc.is("0 of " + size, -2, x.come(size, 0, 0));
            doc.is("one more than " + size, -2, x.come(size, size + 1, 0));
            doc.is("below 0", -2, x.come(size, -1, 0));
            for (int says = 1; says <= size; says++) {
                doc.is(says + " of " + size, 0, x.come(size, says, 0));
                doc.is("is told", says, x.group(0, says - 1, 2));
                doc.is("beside the SIZE", size, x.group(0, says - 1, 1));
            }
        }

        doc.says("a SORT 0 plain, 1 children, 2 dear, 3 alone;");
        x = new SinglesUp();
        doc.is("-1", -2, x.come(1, 1, -1));
        doc.is("4", -2, x.come(1, 1, 4));
        for (int sort = 0; sort <= 3; sort++) {
            doc.is("SORT " + sort, 0, x.come(1, 1, sort));
            doc.is("is told", sort, x.group(0, sort, 3));
        }

        doc.says("WAITED, PASSED (0 as they come).");
        x = Doc.ruled("take 1 when size=2;", 1, 2);
        x.chair();
        Doc.came(x, 1);
        doc.is("one who was there", 11, 10 * x.group(0, 0, 4) + x.group(0, 0, 5));
        doc.is("WAITED", 0, x.group(0, 1, 4));
        doc.is("PASSED", 0, x.group(0, 1, 5));
        Due.tell(x, 0, "take 1;");
        x.chair();
        Doc.came(x, 1);
        doc.is("WAITED, where one has stood that did", 0, x.group(0, 0, 4));
        doc.is("PASSED, where one has stood that was", 0, x.group(0, 0, 5));
    }

    /** An object whose groups all go to this LINE. */
    private static SinglesUp allTo(int line) {
        SinglesUp x = new SinglesUp();
        Due.tell(x, 4, "line " + line + " when size>0;");
        return x;
    }

    private void lines() {
        doc.says("LINES 0 .. 5 have 40 groups at most;");
        for (int line = 0; line <= 5; line++) {
            SinglesUp x = allTo(line);
            for (int i = 1; i <= 40; i++) {
                doc.is("group " + i, line, x.come(i % 8 + 1, 1, 0));
            }
            doc.is("the 40th stands", 39, x.group(line, 39, 0));
            doc.is("the 41st does not", -1, x.come(1, 1, 0));
            doc.is("40 stand", 40, x.line(line, 0));
            doc.is("one went away", 1, x.count(6));
            Due.tell(x, 0, "take 1 when place=0;");
            x.chair();
            doc.is("one sat", 39, x.line(line, 0));
            doc.is("there is place for one", line, x.come(1, 1, 0));
            doc.is("not for two", -1, x.come(1, 1, 0));
            doc.is("two went away", 2, x.count(6));
        }
        SinglesUp x = new SinglesUp();
        doc.is("no LINE 6", -1, x.line(6, 0));
        doc.is("no LINE -1", -1, x.line(-1, 0));
    }

    private void seen() {
        doc.says("SEEN of a LINE (1 .. 24, 9 at first) are so many from its front.");
        for (int line = 0; line <= 5; line++) {
            SinglesUp x = allTo(line);
            x.set(0, 8);
            for (int i = 0; i < 26; i++) {
                x.come(1, 1, 0);
            }
            doc.is("the 9th at first", 0, x.pick(line, 8));
            doc.is("not the 10th", 2, x.pick(line, 9));
            for (int n = 1; n <= 24; n++) {
                doc.is("SEEN " + n, true, x.seen(line, n));
                x.set(0, 8);
                doc.is("the last of them", 0, x.pick(line, n - 1));
                doc.is("the front", n == 1 ? 1 : 0, x.pick(line, 0));
                doc.is("not the next one", 2, x.pick(line, n));
            }
            doc.is("25", false, x.seen(line, 25));
            doc.is("0", false, x.seen(line, 0));
            doc.is("24 still", 0, x.pick(line, 22) + x.pick(line, 1));
            doc.is("not 25", 2, x.pick(line, 24));
            x.seen(line, 3);
            Due.tell(x, 0, "take 1 when place=3;");
            doc.is("by a RULE, not the 4th of 3", 0, x.chair());
            Due.tell(x, 0, "take 1 when place=2;");
            doc.is("the 3rd", 1, x.chair());
        }
    }

    private void parts() {
        doc.says("PARTS of a SIZE k (2 .. 8): a part 1 .. k - 1, or none (as at first):");
        SinglesUp x = new SinglesUp();
        for (int size = 2; size <= 8; size++) {
            for (int part = 0; part < size; part++) {
                doc.is(part + " of " + size, true, x.parts(size, part));
            }
            doc.is("all of " + size, false, x.parts(size, size));
            doc.is("more than " + size, false, x.parts(size, size + 1));
            doc.is("below none", false, x.parts(size, -1));
        }
        doc.is("SIZE 1", false, x.parts(1, 0));
        doc.is("SIZE 1, a part", false, x.parts(1, 1));
        doc.is("SIZE 9", false, x.parts(9, 1));
        doc.is("SIZE 0", false, x.parts(0, 0));
        doc.is("a SIZE below 0", false, x.parts(-2, 0));
        for (int size = 3; size <= 8; size++) {
            x = Doc.ruled("take 1;", size);
            x.set(0, 2);
            doc.is(size + " whole at first", 0, x.chair());
            x.parts(size, 1);
            x.parts(size, 0);
            doc.is(size + " whole again", 0, x.chair());
        }

        doc.says("it may be parted into that and the rest.");
        for (int size = 3; size <= 8; size++) {
            for (int part = 1; part < size; part++) {
                for (int seats = 2; seats < size; seats++) {
                    x = Doc.ruled("take 1;", size);
                    x.set(0, seats);
                    x.parts(size, part);
                    int rest = size - part;
                    int sits = Math.max(part <= seats ? part : 0, rest <= seats ? rest : 0);
                    String call = size + " as " + part + " and " + rest + " on " + seats;
                    doc.is(call + ": who sits", sits, x.chair());
                    doc.is(call + ": who stays", size - sits, x.group(0, 0, 1));
                }
            }
        }
    }
}

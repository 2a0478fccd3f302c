/** The words of the promises 1 to 13 and 32 to 33: what is new, what is told, TEXTS, groups that come. */
final class TellEdges {
    private static final int FOUR_BLANKS = 0x20202020;

    private final Doc doc;

    TellEdges(Doc doc) {
        this.doc = doc;
    }

    void all() {
        aNewObject();
        state();
        set();
        seenAndParts();
        comer();
        feed();
        end();
        text();
        fault();
        come();
        group();
        line();
        image();
        told();
    }

    private void aNewObject() {
        doc.promise(1);
        doc.says("Empty lines.");
        SinglesUp x = new SinglesUp();
        for (int line = 0; line <= 5; line++) {
            doc.is("groups in LINE " + line, 0, x.line(line, 0));
            doc.is("people in LINE " + line, 0, x.line(line, 1));
            for (int place = 0; place < 40; place++) {
                doc.is("LINE " + line + " at " + place, -1, x.group(line, place, 0));
            }
        }
        doc.is("nobody sits", 0, x.chair());
        x.come(1, 1, 0);
        doc.is("another object has lines of its own", 0, new SinglesUp().line(0, 0));
        doc.section("## Terms");
        doc.section("==== 4.");
        doc.says("The constants: `NONE = -1`: None.");
        doc.is("NONE", -1, SinglesUp.NONE);
    }

    private void state() {
        doc.promise(2);
        doc.says("STATE is told: what it was.");
        SinglesUp x = new SinglesUp();
        int[] states = {1, -1, 0, Integer.MAX_VALUE, Integer.MIN_VALUE, 1013904223, 0};
        int before = 0;
        for (int state : states) {
            doc.is("state(" + state + ")", before, x.state(state));
            doc.is("told", state, x.told(8));
            before = state;
        }
        x.set(3, 1);
        x.chair();
        doc.is("what a DRAW made it", 1013904223, x.state(4));
    }

    private void set() {
        doc.promise(3);
        doc.says("What 0 SEATS, 1 SECONDS, 2 HALT, 3 FALLS, 4 BOUND, 5 the RULE IN FORCE: true");
        int[] least = {2, 1, 0, 0, 0, 0};
        int[] most = {8, 99, 999, 1000, 99, 3};
        SinglesUp x = new SinglesUp();
        for (int what = 0; what <= 5; what++) {
            int[] good = {least[what], least[what] + 1, (least[what] + most[what]) / 2, most[what] - 1, most[what]};
            for (int v : good) {
                doc.is("what " + what + ", " + v, true, x.set(what, v));
                doc.is("is told", v, x.told(what));
            }
        }
        doc.is("all of them", 8 + 99 + 999 + 1000 + 99 + 3,
            x.told(0) + x.told(1) + x.told(2) + x.told(3) + x.told(4) + x.told(5));

        doc.says("(nobody is picked any more, if SEATS are told);");
        x = new SinglesUp();
        Doc.came(x, 4);
        x.pick(0, 0);
        x.set(1, 6);
        x.set(2, 40);
        x.set(3, 0);
        x.set(4, 0);
        x.set(5, 0);
        doc.is("others leave who is picked", 1, x.told(6));
        doc.is("9 SEATS can't be", false, x.set(0, 9));
        doc.is("and leave who is picked", 1, x.told(6));
        doc.is("as many SEATS as before", true, x.set(0, 4));
        doc.is("nobody is picked", 0, x.told(6));
        doc.is("and may be again", 0, x.pick(0, 0));
        x.set(0, 3);
        doc.is("fewer SEATS", 0, x.told(6));
        doc.is("too few", 3, x.pick(0, 0));
        doc.is("nobody sits", 0, x.send());

        doc.says("false if one can't be, or another what.");
        for (int what = 0; what <= 5; what++) {
            x.set(what, most[what]);
            doc.is("what " + what + ", too little", false, x.set(what, least[what] - 1));
            doc.is("what " + what + ", too much", false, x.set(what, most[what] + 1));
            doc.is("what " + what + ", the least int", false, x.set(what, Integer.MIN_VALUE));
            doc.is("what " + what + ", the greatest int", false, x.set(what, Integer.MAX_VALUE));
            doc.is("what " + what + " stays", most[what], x.told(what));
        }
        doc.is("what 6", false, x.set(6, 2));
        doc.is("what -1", false, x.set(-1, 2));
        doc.is("the greatest what", false, x.set(Integer.MAX_VALUE, 2));
        doc.is("the least what", false, x.set(Integer.MIN_VALUE, 2));
    }

    private void seenAndParts() {
        doc.promise(4);
        doc.says("SEEN of a LINE: true;");
        SinglesUp x = new SinglesUp();
        Due.tell(x, 4, "line 5 when sort=3;");
        for (int i = 0; i < 30; i++) {
            x.come(1, 1, i < 15 ? 0 : 3);
        }
        doc.is("LINE 0, 1", true, x.seen(0, 1));
        doc.is("LINE 5, 24", true, x.seen(5, 24));
        doc.is("LINE 0: the second one", 2, x.pick(0, 1));
        doc.is("LINE 5: the last one", 0, x.pick(5, 14));

        doc.says("false if one can't be.");
        doc.is("LINE 6", false, x.seen(6, 3));
        doc.is("LINE -1", false, x.seen(-1, 3));
        doc.is("0", false, x.seen(0, 0));
        doc.is("25", false, x.seen(0, 25));
        doc.is("-1", false, x.seen(0, -1));
        doc.is("the greatest ints", false, x.seen(Integer.MAX_VALUE, Integer.MAX_VALUE));
        doc.is("still 1", 2, x.pick(0, 1));

        doc.promise(5);
        doc.says("PARTS of a SIZE (part 0: none): true;");
        x = Doc.ruled("take 1;", 5);
        doc.is("told", true, x.parts(5, 1));
        doc.is("told anew", true, x.parts(5, 3));
        x.image(true);
        doc.is("3 of 5", 3, x.chair());
        x.image(false);
        doc.is("part 0", true, x.parts(5, 0));
        doc.is("none", 0, x.chair());
        doc.is("none of 8", true, x.parts(8, 0));
        doc.is("none of 2", true, x.parts(2, 0));

        doc.says("false if one can't be.");
        x.parts(5, 2);
        doc.is("5 of 5", false, x.parts(5, 5));
        doc.is("-1 of 5", false, x.parts(5, -1));
        doc.is("SIZE 1", false, x.parts(1, 0));
        doc.is("SIZE 9", false, x.parts(9, 4));
        doc.is("SIZE 9, none", false, x.parts(9, 0));
        doc.is("SIZE -5", false, x.parts(-5, 2));
        doc.is("the greatest ints", false, x.parts(Integer.MAX_VALUE, 1));
        doc.is("the greatest part", false, x.parts(5, Integer.MAX_VALUE));
        doc.is("still 2 and 3", 3, x.chair());
    }

    private void comer() {
        doc.promise(6);
        doc.says("A COMER k (CHANCE 0: none): true;");
        SinglesUp x = new SinglesUp();
        doc.is("COMER 0", true, x.comer(0, 1, 1, 0, 1000));
        doc.is("COMER 7", true, x.comer(7, 8, 4, 3, 1000));
        x.run(1);
        doc.is("the one", 1, x.group(0, 0, 1));
        doc.is("the other", 8, x.group(0, 1, 1));
        doc.is("what it SAYS", 4, x.group(0, 1, 2));
        doc.is("its SORT", 3, x.group(0, 1, 3));
        doc.is("COMER 0: none", true, x.comer(0, 1, 1, 0, 0));
        x.run(1);
        doc.is("the other comes alone", 3, x.line(0, 0));
        doc.is("COMER 7: none", true, x.comer(7, 8, 4, 3, 0));
        x.run(1);
        doc.is("nobody comes", 3, x.line(0, 0));

        doc.says("false if one can't be.");
        int[][] wrong = {{-1, 1, 1, 0, 5}, {8, 1, 1, 0, 5}, {0, 0, 0, 0, 5}, {0, 0, 1, 0, 5}, {0, 9, 9, 0, 5},
            {0, 9, 1, 0, 5}, {0, 2, 0, 0, 5}, {0, 2, 3, 0, 5}, {0, 2, -1, 0, 5}, {0, 2, 2, -1, 5}, {0, 2, 2, 4, 5},
            {0, 2, 2, 0, -1}, {0, 2, 2, 0, 1001}, {Integer.MAX_VALUE, 1, 1, 0, 5}, {Integer.MIN_VALUE, 1, 1, 0, 5}};
        x.comer(0, 3, 3, 1, 1000);
        for (int[] row : wrong) {
            doc.is("comer(" + row[0] + ", " + row[1] + ", " + row[2] + ", " + row[3] + ", " + row[4] + ")", false,
                x.comer(row[0], row[1], row[2], row[3], row[4]));
        }
        x.run(1);
        doc.is("COMER 0 as before", 3, x.group(0, 3, 1));
        doc.is("COMER 0 alone", 4, x.line(0, 0));
    }

    private void feed() {
        doc.promise(7);
        doc.says("Twenty bytes come behind the TAPE, of each number the highest first: how many it has.");
        SinglesUp x = new SinglesUp();
        doc.is("20", 20, x.feed(0x74616b65, 0x20390a20, 0x0a2d2070, 0x6c616365, 0x2020203b));
        doc.is("take 9 - place   ;", 1, x.text(0));
        Doc.came(x, 1, 1);
        doc.is("9 - 1", 8, x.group(0, 1, 6));
        doc.is("20", 20, x.feed(0x74616b65, FOUR_BLANKS, FOUR_BLANKS, FOUR_BLANKS, FOUR_BLANKS));
        doc.is("behind those", 40, x.feed(0x37202020, FOUR_BLANKS, FOUR_BLANKS, FOUR_BLANKS, FOUR_BLANKS));
        doc.is("behind those", 60, x.feed(0x3b202020, FOUR_BLANKS, FOUR_BLANKS, FOUR_BLANKS, FOUR_BLANKS));
        doc.is("take 7;", 1, x.text(0));
        doc.is("7", 7, x.group(0, 1, 6));
        // One byte that is not blank, at each of the twenty places.
        for (int place = 0; place < 20; place++) {
            int[] numbers = {FOUR_BLANKS, FOUR_BLANKS, FOUR_BLANKS, FOUR_BLANKS, FOUR_BLANKS};
            numbers[place / 4] ^= 0xdf << 24 - place % 4 * 8;
            x.feed(numbers[0], numbers[1], numbers[2], numbers[3], numbers[4]);
            doc.is("255 at " + place, -1, x.text(1));
            doc.is("its place", place, x.fault(1));
        }

        doc.says("NONE, and nothing comes, if there would be more than 400.");
        for (int n = 20; n <= 400; n += 20) {
            doc.is("how many", n, x.feed(FOUR_BLANKS, FOUR_BLANKS, FOUR_BLANKS, FOUR_BLANKS, FOUR_BLANKS));
        }
        doc.is("420", -1, x.feed(-1, -1, -1, -1, -1));
        doc.is("420 again", -1, x.feed(-1, -1, -1, -1, -1));
        doc.is("400 are there", false, x.end(401));
        x.end(381);
        doc.is("401", -1, x.feed(-1, -1, -1, -1, -1));
        doc.is("381 are there", false, x.end(382));
        x.end(380);
        doc.is("400", 400, x.feed(FOUR_BLANKS, FOUR_BLANKS, FOUR_BLANKS, FOUR_BLANKS, FOUR_BLANKS));
        doc.is("nothing came: all blank", 0, x.text(1));
    }

    private void end() {
        doc.promise(8);
        doc.says("The TAPE has its first n bytes alone: true;");
        SinglesUp x = new SinglesUp();
        doc.is("0 of 0", true, x.end(0));
        Due.feed(x, "take 5;take 6;take 7");
        doc.is("20 of 20", true, x.end(20));
        doc.is("14 of 20", true, x.end(14));
        doc.is("two lines are left", 2, x.text(0));
        Due.feed(x, "take 5;take 6;take 7");
        doc.is("7 of 20", true, x.end(7));
        doc.is("6 of 7", true, x.end(6));
        doc.is("20 more behind", 26, x.feed(0x312b313b, FOUR_BLANKS, FOUR_BLANKS, FOUR_BLANKS, FOUR_BLANKS));
        doc.is("take 51+1;", 1, x.text(0));
        Doc.came(x, 1);
        doc.is("52", 52, x.group(0, 0, 6));
        // What stood behind the first n bytes is not there, though a word or a number went on in it.
        String[] cut = {"taken", "take 12345", "take 1 when1", "take 1/01"};
        int[][] faults = {{1, 4}, {1, 9}, {1, 11}, {2, 7}};
        for (int i = 0; i < cut.length; i++) {
            Due.feed(x, cut[i]);
            x.end(cut[i].length() - 1);
            x.text(1);
            doc.is(cut[i] + ", but for its last byte: the FAULT", faults[i][0], x.fault(0));
            doc.is(cut[i] + ", but for its last byte: its place", faults[i][1], x.fault(1));
        }
        Due.feed(x, "take 5;");
        doc.is("0 of 7", true, x.end(0));
        doc.is("nothing is left", 0, x.text(0));

        doc.says("false, changing nothing, if it has not so many, or n is below 0.");
        doc.is("1 of 0", false, x.end(1));
        doc.is("-1 of 0", false, x.end(-1));
        Due.feed(x, "take 5;");
        doc.is("8 of 7", false, x.end(8));
        doc.is("-1 of 7", false, x.end(-1));
        doc.is("the greatest int", false, x.end(Integer.MAX_VALUE));
        doc.is("the least int", false, x.end(Integer.MIN_VALUE));
        doc.is("7 are there", true, x.end(7));
        doc.is("as they were", 1, x.text(0));
        doc.is("5", 5, x.group(0, 0, 6));
    }

    private void text() {
        doc.promise(9);
        doc.says("The TAPE, empty then, is RULE k (0 .. 3) or THE LINES (4): how many lines.");
        for (int k = 0; k <= 3; k++) {
            SinglesUp x = Doc.ruled("", 1);
            x.set(5, k);
            for (int lines = 16; lines >= 0; lines--) {
                doc.is("RULE " + k, lines, Due.tell(x, k, Doc.times("take 7;", lines)));
                doc.is("the TAPE is empty", false, x.end(1));
                doc.is("WORTH", lines == 0 ? 0 : 7, x.group(0, 0, 6));
            }
        }
        SinglesUp x = Doc.ruled("", 1);
        for (int lines = 16; lines >= 0; lines--) {
            doc.is("THE LINES", lines, Due.tell(x, 4, Doc.times("line 5 when size=1;", lines)));
            doc.is("the TAPE is empty", false, x.end(1));
            doc.is("whereto", lines == 0 ? 0 : 5, x.come(1, 1, 0));
        }
        x = Doc.ruled("take 1;", 1);
        for (int k = 1; k <= 3; k++) {
            Due.tell(x, k, "take " + (k + 1) + ";");
        }
        for (int k = 0; k <= 3; k++) {
            x.set(5, k);
            doc.is("RULE " + k + " is its own", k + 1, x.group(0, 0, 6));
        }
        doc.is("no bytes: no lines", 0, x.text(3));
        doc.is("RULE 3 is empty", 0, x.group(0, 0, 6));

        doc.says("NONE: no such one (fault() tells 0), or a FAULT (the TEXT stays as it was; the TAPE is empty in each"
            + " case).");
        x.set(5, 2);
        int[] none = {-1, 5, Integer.MAX_VALUE, Integer.MIN_VALUE};
        for (int k : none) {
            Due.tell(x, 0, "take 1/0;");
            doc.is("no TEXT " + k, -1, Due.tell(x, k, "take 9;"));
            doc.is("FAULT 0", 0, x.fault(0));
            doc.is("no place", -1, x.fault(1));
            doc.is("the TAPE is empty", false, x.end(1));
            doc.is("no TEXT " + k + " with a FAULT", -1, Due.tell(x, k, "take 9"));
            doc.is("FAULT 0", 0, x.fault(0));
            doc.is("RULE 2 stays", 3, x.group(0, 0, 6));
        }
        doc.is("a FAULT at the end", -1, Due.tell(x, 2, "take 9;take 8"));
        doc.is("RULE 2 stays", 3, x.group(0, 0, 6));
        doc.is("the TAPE is empty", false, x.end(1));
        doc.is("a FAULT at once", -1, Due.tell(x, 2, "!"));
        doc.is("RULE 2 stays", 3, x.group(0, 0, 6));
        Due.tell(x, 4, "line 5 when size=1;");
        doc.is("a FAULT in THE LINES", -1, Due.tell(x, 4, "line 2 when size=1;line 6 when size=1;"));
        doc.is("THE LINES stay", 5, x.come(1, 1, 0));
        doc.is("a RULE is none of THE LINES", -1, Due.tell(x, 4, "take 1;"));
        doc.is("THE LINES stay", 5, x.come(1, 1, 0));
    }

    private void fault() {
        doc.promise(10);
        doc.says("Of the latest text(): what 0 the FAULT (0 without one), 1 its place (NONE).");
        SinglesUp x = new SinglesUp();
        doc.is("before any text(): no FAULT", 0, x.fault(0));
        doc.is("no place", -1, x.fault(1));
        Due.tell(x, 0, "!");
        doc.is("FAULT 1", 1, x.fault(0));
        doc.is("its place is 0", 0, x.fault(1));
        Due.tell(x, 4, " line 6");
        doc.is("FAULT 2", 2, x.fault(0));
        doc.is("its place", 6, x.fault(1));
        Due.feed(x, "take 1;");
        x.end(6);
        x.end(99);
        doc.is("feed() and end() leave it", 2, x.fault(0));
        doc.is("its place", 6, x.fault(1));
        x.text(1);
        doc.is("the latest", 1, x.fault(0));
        doc.is("its place", 6, x.fault(1));
        Due.tell(x, 0, Doc.times("take 1;", 17));
        doc.is("FAULT 3", 3, x.fault(0));
        doc.is("its place", 112, x.fault(1));
        x.text(0);
        doc.is("without one", 0, x.fault(0));
        doc.is("no place", -1, x.fault(1));

        doc.says("NONE for another what.");
        Due.tell(x, 0, "!");
        doc.is("what 2", -1, x.fault(2));
        doc.is("what -1", -1, x.fault(-1));
        doc.is("the greatest what", -1, x.fault(Integer.MAX_VALUE));
        doc.is("the least what", -1, x.fault(Integer.MIN_VALUE));
    }

    private void come() {
        doc.promise(11);
        doc.says("A group comes: its LINE;");
        SinglesUp x = new SinglesUp();
        Due.tell(x, 4, "line 5 when size=8;line 3 when sort=1;");
        doc.is("LINE 0", 0, x.come(1, 1, 0));
        doc.is("LINE 5", 5, x.come(8, 8, 3));
        doc.is("LINE 3", 3, x.come(8, 7, 1));
        doc.is("three came", 3, x.told(7));

        doc.says("NONE if it went away;");
        for (int i = 0; i < 39; i++) {
            doc.is("LINE 3 is not full", 3, x.come(1, 1, 1));
        }
        doc.is("LINE 3 is full", -1, x.come(1, 1, 1));
        doc.is("AWAY", 1, x.count(6));
        doc.is("others are not", 0, x.come(1, 1, 0));

        doc.says("NONE - 1, and none comes, if one can't be.");
        int came = x.told(7);
        int[][] wrong = {{0, 0, 0}, {0, 1, 0}, {9, 9, 0}, {9, 1, 0}, {-1, 1, 0}, {1, 0, 0}, {1, 2, 0}, {8, 9, 0},
            {5, -1, 0}, {1, 1, -1}, {1, 1, 4}, {Integer.MAX_VALUE, 1, 0}, {1, Integer.MIN_VALUE, 0},
            {1, 1, Integer.MAX_VALUE}, {0, 0, 1}, {9, 1, 1}};
        for (int[] row : wrong) {
            doc.is("come(" + row[0] + ", " + row[1] + ", " + row[2] + ")", -2, x.come(row[0], row[1], row[2]));
        }
        doc.is("none came", came, x.told(7));
        doc.is("none stands", 2, x.line(0, 0));
        doc.is("none is AWAY", 1, x.count(6));
    }

    private void group() {
        doc.promise(12);
        doc.says("A group at a place of a LINE what 0 NUMBER, 1 SIZE, 2 what it SAYS, 3 SORT, 4 WAITED, 5 PASSED,"
            + " 6 WORTH by the RULE IN FORCE on an empty chair.");
        SinglesUp x = Doc.ruled("take 77;");
        Due.tell(x, 3, "take 10*left+taken+5;");
        Due.tell(x, 4, "line 5 when sort=3;");
        Doc.came(x, 1);
        x.come(8, 3, 3);
        x.come(1, 1, 3);
        x.send();
        x.pick(5, 1);
        x.send();
        x.set(5, 3);
        int[] told = {1, 8, 3, 3, 2, 1, 45};
        for (int what = 0; what <= 6; what++) {
            doc.is("what " + what, told[what], x.group(5, 0, what));
        }
        x.pick(0, 0);
        doc.is("an empty chair, whoever is picked", 45, x.group(5, 0, 6));
        x.set(0, 8);
        doc.is("of 8 SEATS", 85, x.group(5, 0, 6));
        x.set(5, 0);
        doc.is("by RULE 0", 77, x.group(5, 0, 6));

        doc.says("NONE if there is none;");
        for (int what = 0; what <= 6; what++) {
            doc.is("an empty LINE, what " + what, -1, x.group(4, 0, what));
            doc.is("behind the last, what " + what, -1, x.group(0, 1, what));
            doc.is("the last place, what " + what, -1, x.group(0, 39, what));
        }

        doc.says("NONE - 999999 if one can't be, or another what.");
        int[][] wrong = {{-1, 0, 0}, {6, 0, 0}, {0, -1, 0}, {0, 40, 0}, {0, 0, -1}, {0, 0, 7}, {0, 1, 7},
            {Integer.MAX_VALUE, 0, 0}, {Integer.MIN_VALUE, 0, 0}, {0, Integer.MAX_VALUE, 0},
            {0, Integer.MIN_VALUE, 0}, {0, 0, Integer.MAX_VALUE}, {0, 0, Integer.MIN_VALUE}};
        for (int[] row : wrong) {
            doc.is("group(" + row[0] + ", " + row[1] + ", " + row[2] + ")", -1000000, x.group(row[0], row[1], row[2]));
        }
    }

    private void line() {
        doc.promise(13);
        doc.says("How many groups stand in a LINE (what 0), people (1).");
        SinglesUp x = new SinglesUp();
        for (int line = 5; line >= 0; line--) {
            Due.tell(x, 4, "line " + line + " when 1=1;");
            for (int i = 0; i < line; i++) {
                x.come(line, 1, 0);
            }
            doc.is("groups of LINE " + line, line, x.line(line, 0));
            doc.is("people of LINE " + line + ", not what they SAY", line * line, x.line(line, 1));
        }
        for (int i = 0; i < 40; i++) {
            x.come(8, 8, 0);
        }
        doc.is("the most groups", 40, x.line(0, 0));
        doc.is("the most people", 320, x.line(0, 1));

        doc.says("NONE if one can't be, or another what.");
        int[][] wrong = {{-1, 0}, {6, 0}, {-1, 1}, {6, 1}, {0, -1}, {0, 2}, {Integer.MAX_VALUE, 0},
            {Integer.MIN_VALUE, 1}, {0, Integer.MAX_VALUE}, {0, Integer.MIN_VALUE}};
        for (int[] row : wrong) {
            doc.is("line(" + row[0] + ", " + row[1] + ")", -1, x.line(row[0], row[1]));
        }
    }

    private void image() {
        doc.promise(32);
        doc.says("THE IMAGE is taken (true), or gone back to (false): true;");
        SinglesUp x = new SinglesUp();
        doc.is("taken", true, x.image(true));
        Doc.came(x, 1);
        doc.is("gone back to", true, x.image(false));
        doc.is("nobody came", 0, x.line(0, 0));
        Doc.came(x, 2);
        doc.is("taken anew", true, x.image(true));
        x.chair();
        doc.is("gone back to", true, x.image(false));
        doc.is("2 came", 2, x.line(0, 1));

        doc.says("false if there is none.");
        x = new SinglesUp();
        Doc.came(x, 1);
        x.pick(0, 0);
        doc.is("none", false, x.image(false));
        doc.is("nothing changes", 1, x.line(0, 0));
        doc.is("who is picked stays", 1, x.told(6));
        doc.is("none still", false, x.image(false));
        doc.is("taken", true, x.image(true));
        doc.is("there is one", true, x.image(false));
        doc.is("no other object has it", false, new SinglesUp().image(false));
    }

    private void told() {
        doc.promise(33);
        doc.says("What is told: what 0 SEATS, 1 SECONDS, 2 HALT, 3 FALLS, 4 BOUND, 5 the RULE IN FORCE, 6 how many are"
            + " picked, 7 groups that came in all, 8 STATE.");
        SinglesUp x = new SinglesUp();
        int[] first = {4, 6, 40, 0, 0, 0, 0, 0, 0};
        int[] then = {8, 99, 999, 1000, 98, 3, 2, 3, -5};
        for (int what = 0; what <= 8; what++) {
            doc.is("at first, what " + what, first[what], x.told(what));
        }
        for (int what = 0; what <= 5; what++) {
            x.set(what, then[what]);
        }
        Doc.came(x, 1, 1, 1);
        x.come(9, 9, 9);
        x.pick(0, 0);
        x.pick(0, 0);
        x.pick(0, 2);
        x.state(-5);
        for (int what = 0; what <= 8; what++) {
            doc.is("then, what " + what, then[what], x.told(what));
        }
        x.send();
        doc.is("came in all, though two went", 3, x.told(7));
        x.comer(0, 1, 1, 0, 1000);
        x.run(2);
        doc.is("COMERS, too", 5, x.told(7));

        doc.says("NONE for another what.");
        int[] none = {9, -1, Integer.MAX_VALUE, Integer.MIN_VALUE};
        for (int what : none) {
            doc.is("what " + what, -1, x.told(what));
        }
    }
}

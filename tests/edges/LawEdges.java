/** The words of part 2 that tell what THE LINES and the RULES are asked for. */
final class LawEdges {
    private final Doc doc;

    LawEdges(Doc doc) {
        this.doc = doc;
    }

    void all() {
        doc.section("==== 2.");
        theFirstLine();
        whatALineIsAsked();
        fullLines();
        worth();
        worthIsAsked();
        asTheChairCame();
    }

    private static SinglesUp lined(String lines) {
        SinglesUp x = new SinglesUp();
        Due.tell(x, 4, lines);
        return x;
    }

    private void theFirstLine() {
        doc.says("A group that comes goes behind the LINE told by the first line of THE LINES whose B is so,"
            + " else LINE 0:");
        SinglesUp x = lined("line 5 when size=2;line 4 when size<4;line 3 when size<4;");
        doc.is("the first one is so", 5, x.come(2, 2, 0));
        doc.is("the second one, though the third is, too", 4, x.come(3, 3, 0));
        doc.is("none is", 0, x.come(4, 4, 0));
        doc.is("behind", 4, x.come(1, 1, 0));
        doc.stand("one behind the other", x, 4, 1, 3);
        x = lined("line 2 when size=0;");
        doc.is("one that is not so", 0, x.come(1, 1, 0));
        StringBuilder sixteen = new StringBuilder(Doc.times("line 2 when 1=2;", 15));
        x = lined(sixteen.append("line 3 when 1=1;").toString());
        doc.is("the 16th", 3, x.come(1, 1, 0));
        x.comer(5, 1, 1, 0, 1000);
        x.run(1);
        doc.is("COMERS, too", 2, x.line(3, 0));
    }

    private void whatALineIsAsked() {
        doc.says("size is what it SAYS, sort,");
        SinglesUp x = lined("line 1 when size=4;line 2 when size=8;line 3 when sort=2;line 4 when sort>2;");
        doc.is("4 of 8", 1, x.come(8, 4, 0));
        doc.is("3 of 4", 0, x.come(4, 3, 0));
        doc.is("8 of 8", 2, x.come(8, 8, 0));
        doc.is("SORT 0", 0, x.come(1, 1, 0));
        doc.is("SORT 1", 0, x.come(1, 1, 1));
        doc.is("SORT 2", 3, x.come(1, 1, 2));
        doc.is("SORT 3", 4, x.come(1, 1, 3));

        doc.says("short: the LINE with fewest groups (of several the first),");
        x = lined("line 0 when short=0;line 1 when short=1;line 2 when short=2;line 3 when short=3;"
            + "line 4 when short=4;line 5 when short=5;");
        for (int i = 0; i < 13; i++) {
            doc.is("each in its turn, " + i, i % 6, x.come(8 - i % 3, 1, 0));
        }
        Due.tell(x, 0, "take 1 when line=4 and place=0;");
        x.chair();
        doc.is("8 left LINE 4: a single one stands there", 1, x.line(4, 0));
        doc.is("the fewest groups, not people, and not LINE 1 with 2", 4, x.come(1, 1, 0));
        doc.is("then the first of several", 1, x.come(1, 1, 0));
        // LINE 5 alone has one less than the others.
        x = lined("line 0 when first=0;line 1 when short=1;line 2 when short=2;line 3 when short=3;"
            + "line 4 when short=4;line 2 when short=5;");
        Doc.came(x, 1, 1, 1, 1, 1);
        doc.is("the last LINE", 2, x.come(1, 1, 0));

        doc.says("first: how many stand in LINE 0.");
        x = lined("line 3 when first=2;line 4 when first>39;");
        doc.is("none", 0, x.come(2, 2, 0));
        doc.is("one group of 2", 0, x.come(1, 1, 0));
        doc.is("two groups", 3, x.come(1, 1, 0));
        doc.is("still two", 3, x.come(1, 1, 0));
        x = lined("line 4 when first=40;");
        for (int i = 0; i < 40; i++) {
            doc.is(i + " stand", 0, x.come(1, 1, 0));
        }
        doc.is("40 stand", 4, x.come(1, 1, 0));
    }

    private void fullLines() {
        doc.says("If that LINE is full, it goes away (AWAY is more).");
        SinglesUp x = lined("line 5 when sort=3;");
        for (int i = 0; i < 40; i++) {
            x.come(1, 1, 3);
        }
        doc.is("nobody yet", 0, x.count(6));
        doc.is("the 41st", -1, x.come(1, 1, 3));
        doc.is("AWAY", 1, x.count(6));
        doc.is("40 stand", 40, x.line(5, 0));
        doc.is("no other LINE has it", 0, x.line(0, 0));
        doc.is("another LINE is free", 0, x.come(1, 1, 0));
        x.comer(0, 2, 2, 3, 1000);
        x.run(3);
        doc.is("three COMERS, too", 4, x.count(6));
        doc.is("one that can't be is not AWAY", -2, x.come(9, 9, 3));
        doc.is("AWAY as before", 4, x.count(6));
    }

    private void worth() {
        doc.says("WORTH of a group by a RULE: E of the first line whose B is so (or that has none), 0 without one:");
        SinglesUp x = Doc.ruled("take 5 when size=2;take 6 when size>1;take 7;take 8;", 1, 2, 3);
        doc.is("the first of two that are so", 5, x.group(0, 1, 6));
        doc.is("the second", 6, x.group(0, 2, 6));
        doc.is("the one that has none", 7, x.group(0, 0, 6));
        Due.tell(x, 0, "take 7;take 5 when size=2;");
        doc.is("the one that has none stands first", 7, x.group(0, 1, 6));
        Due.tell(x, 0, "take 5 when size=2;take 6 when size=3;");
        doc.is("without one", 0, x.group(0, 0, 6));
        Due.tell(x, 0, "");
        doc.is("without any", 0, x.group(0, 1, 6));
        Due.tell(x, 0, "take 0-5 when size=2;");
        doc.is("below 0", -5, x.group(0, 1, 6));
    }

    private void worthIsAsked() {
        doc.says("size is what it SAYS, left: seats that are left, place in its LINE (0 the front), line, passed,"
            + " waited, sort,");
        SinglesUp x = lined("line 5 when sort=3;");
        x.come(1, 1, 0);
        x.come(8, 3, 3);
        x.come(1, 1, 3);
        Due.tell(x, 0, "take size;");
        doc.is("size", 3, x.group(5, 0, 6));
        Due.tell(x, 0, "take left;");
        doc.is("left on an empty chair", 4, x.group(5, 0, 6));
        x.set(0, 8);
        doc.is("left of 8", 8, x.group(5, 0, 6));
        Due.tell(x, 0, "take place;");
        doc.is("the front", 0, x.group(5, 0, 6));
        doc.is("behind it", 1, x.group(5, 1, 6));
        Due.tell(x, 0, "take line;");
        doc.is("LINE 5", 5, x.group(5, 0, 6));
        doc.is("LINE 0", 0, x.group(0, 0, 6));
        Due.tell(x, 0, "take sort;");
        doc.is("SORT 3", 3, x.group(5, 0, 6));
        doc.is("SORT 0", 0, x.group(0, 0, 6));
        x.send();
        x.pick(5, 1);
        x.send();
        Due.tell(x, 0, "take passed;");
        doc.is("passed", 1, x.group(5, 0, 6));
        doc.is("not passed", 0, x.group(0, 0, 6));
        Due.tell(x, 0, "take waited;");
        doc.is("waited", 2, x.group(5, 0, 6));
        for (int i = 0; i < 39; i++) {
            x.come(1, 1, 3);
        }
        Due.tell(x, 0, "take place;");
        doc.is("the last place", 39, x.group(5, 39, 6));
        Due.tell(x, 0, "take behind;");
        doc.is("behind the front", 39, x.group(5, 0, 6));
        doc.is("behind the last", 0, x.group(5, 39, 6));
        Due.tell(x, 0, "take 1+taken;");
        doc.is("none taken", 1, x.group(5, 7, 6));
    }

    /** Of the group, in a chair that it sits on as soon as this B is so. */
    private static SinglesUp lastWhen(String test, int... sizes) {
        SinglesUp x = Doc.ruled("take 99 when size=1 and " + test + ";take 50-place when size>1;", sizes);
        x.set(0, 8);
        return x;
    }

    private void asTheChairCame() {
        doc.says("taken: how many groups sit on the chair, behind: how many groups stand behind it in its LINE"
            + " (all of it as when the chair came, but for left and taken).");
        SinglesUp x = lastWhen("taken=0", 2, 1, 3);
        x.chair();
        doc.sat("taken is 0", x, 1, 0, 2);
        x = lastWhen("taken=1", 2, 1, 3);
        x.chair();
        doc.sat("taken is 1: groups, not people", x, 0, 1, 2);
        x = lastWhen("taken=2", 2, 1, 3);
        x.chair();
        doc.sat("taken is 2", x, 0, 2, 1);
        x = lastWhen("taken=3", 2, 1, 3);
        x.chair();
        doc.sat("taken is never 3", x, 0, 2);
        x = lastWhen("left=8", 2, 1, 3);
        x.chair();
        doc.sat("left is 8", x, 1, 0, 2);
        x = lastWhen("left=6", 2, 1, 3);
        x.chair();
        doc.sat("left is 6", x, 0, 1, 2);
        x = lastWhen("left=3", 2, 1, 3);
        x.chair();
        doc.sat("left is 3", x, 0, 2, 1);
        x = lastWhen("taken=2 and place=1 and behind=1", 2, 1, 3);
        x.chair();
        doc.sat("those before and behind it sit, and its place stays", x, 0, 2, 1);
        x = lastWhen("taken=2 and behind=0", 2, 1, 3);
        x.chair();
        doc.sat("the one behind it counts, though it sits", x, 0, 2);
        x = lastWhen("taken=2 and place=0", 2, 1, 3);
        x.chair();
        doc.sat("so does the one before it", x, 0, 2);
        x.seen(0, 1);
        Doc.came(x, 2, 2);
        Due.tell(x, 0, "take 1 when behind=2;");
        doc.is("those that are not SEEN stand behind it, too", 1, x.chair());
        // One that is found out still stands behind the others as this chair is filled.
        x = Doc.ruled("take 99 when sort=3;take 1 when behind=1 and place=1;", 2, 2);
        x.come(5, 4, 3);
        doc.is("one is found out", 2, x.chair());
        doc.sat("the second one has one behind it", x, 1);
        // One that has waited or was passed has so only as the chair goes.
        x = Doc.ruled("take 9 when place=1;take 5 when waited=0 and passed=0;", 1, 1);
        doc.is("passed and waited as the chair came", 2, x.chair());
    }
}

/** The words of part 3 that tell how a CHAIR is FILLED. */
final class FillEdges {
    private final Doc doc;

    FillEdges(Doc doc) {
        this.doc = doc;
    }

    void all() {
        doc.section("==== 3.");
        theRule();
        fits();
        fitsBySort();
        byBound();
        byWorth();
        ofSeveral();
        foundOut();
        foundOutAndAway();
        sits();
        whenNoGroupIsFound();
        partsOfWhom();
        partsThatFit();
        greaterPart();
        goes();
    }

    private void theRule() {
        doc.says("A CHAIR is FILLED by the RULE IN FORCE (0 at first).");
        SinglesUp x = new SinglesUp();
        Doc.came(x, 4, 4, 4, 4);
        for (int rule = 0; rule <= 3; rule++) {
            Due.tell(x, rule, "take 1 when place=" + (3 - rule) + ";");
        }
        x.image(true);
        x.chair();
        doc.sat("RULE 0 at first", x, 3);
        for (int rule = 3; rule >= 0; rule--) {
            x.image(false);
            doc.is("RULE " + rule, true, x.set(5, rule));
            x.chair();
            doc.sat("by RULE " + rule, x, 3 - rule);
        }
        doc.is("no RULE 4", false, x.set(5, 4));
        doc.is("no RULE -1", false, x.set(5, -1));
        doc.is("0 still", 0, x.told(5));
    }

    private void fits() {
        doc.says("A group FITS, if it is SEEN,");
        SinglesUp x = Doc.ruled("take 1 when size=1;", 2, 2, 2, 2, 2, 2, 2, 2, 1, 1);
        doc.is("the 9th, not the 10th", 1, x.chair());
        doc.sat("the 9th", x, 8);
        x.seen(0, 8);
        doc.is("the 9th of 8", 0, x.chair());

        doc.says("does not sit");
        x = Doc.ruled("take 1;", 1);
        doc.is("one sits once", 1, x.chair());
        doc.sat("once", x, 0);
        x = Doc.ruled("take 1;", 1, 1);
        x.set(4, 1);
        x.pick(0, 1);
        x.send();
        doc.is("once by BOUND, too", 1, x.chair());

        doc.says("and was not FOUND OUT on this chair,");
        x = Doc.ruled("take 1;");
        x.come(5, 1, 0);
        doc.is("nobody sits", 0, x.chair());
        doc.is("FOUND once", 1, x.count(5));
        x.set(0, 5);
        doc.is("on the next chair it FITS", 5, x.chair());

        doc.says("what it SAYS is not above left,");
        x = Doc.ruled("take 1;", 4);
        doc.is("4 of 4", 4, x.chair());
        x = Doc.ruled("take 1;", 5);
        doc.is("5 of 4", 0, x.chair());
        x = Doc.ruled("take 9-place;", 3, 2, 1);
        x.chair();
        doc.sat("2 of 1 does not, 1 of 1 does", x, 0, 2);
        x = Doc.ruled("take 1;");
        x.come(8, 5, 0);
        x.chair();
        doc.is("says 5 of 4: not found out", 0, x.count(5));
        x.come(8, 4, 0);
        x.chair();
        doc.is("says 4 of 4: found out", 1, x.count(5));
    }

    private void fitsBySort() {
        doc.says("of SORT 1 one of another SORT sits there,");
        SinglesUp x = Doc.ruled("take 9-place;");
        x.come(1, 1, 1);
        x.come(1, 1, 1);
        doc.is("children alone", 0, x.chair());
        x.come(1, 1, 0);
        x.chair();
        doc.sat("a plain one first", x, 2, 0, 1);
        x.come(1, 1, 1);
        x.come(1, 1, 3);
        x.chair();
        doc.sat("one alone first", x, 4, 3);
        x.come(1, 1, 1);
        x.come(4, 4, 0);
        doc.is("no seat is left by then", 4, x.chair());
        x.come(3, 1, 3);
        x.set(0, 2);
        doc.is("one that was found out does not sit there", 0, x.chair());
        doc.is("FOUND", 1, x.count(5));
        x.set(4, 1);
        x.set(0, 4);
        x.pick(0, 1);
        x.send();
        doc.is("children that were passed", 2, x.group(0, 0, 5));
        doc.is("stay without another one, BOUND or not", 0, x.chair());

        doc.says("of SORT 2 nobody sits there,");
        x = Doc.ruled("take 9-place;");
        x.come(1, 1, 0);
        x.come(1, 1, 2);
        doc.is("one sits there", 1, x.chair());
        doc.is("nobody does", 1, x.chair());
        doc.sat("the dear one", x, 1);
        x.come(8, 4, 3);
        x.come(1, 1, 2);
        x.chair();
        doc.sat("one that was found out does not sit there", x, 3);
        x = Doc.ruled("take 1 when sort<2;");
        x.come(1, 1, 2);
        x.come(1, 1, 0);
        x.chair();
        x.set(4, 1);
        Doc.came(x, 1);
        doc.is("passed once", 1, x.group(0, 0, 5));
        x.chair();
        doc.sat("by BOUND, before another one sits", x, 0);

        doc.says("and none of SORT 2 sits there.");
        x = Doc.ruled("take 9-place;");
        x.come(1, 1, 2);
        x.come(1, 1, 0);
        x.come(1, 1, 1);
        x.come(1, 1, 2);
        x.come(1, 1, 3);
        doc.is("only the dear one", 1, x.chair());
        doc.sat("the first dear one", x, 0);
        x.set(4, 1);
        x.pick(0, 2);
        x.send();
        x.seen(0, 1);
        x.chair();
        x.seen(0, 9);
        doc.stand("children and one alone", x, 0, 2, 4);
        x.come(1, 1, 2);
        Due.tell(x, 0, "take 5 when sort=2;");
        doc.is("children were passed, but the dear one sits", 1, x.group(0, 0, 5));
        x.chair();
        doc.sat("the dear one only", x, 5);
    }

    private void byBound() {
        doc.says("Again and again: with a BOUND above 0, of those that FIT and are PASSED as often as BOUND or more"
            + " that with the greatest PASSED;");
        SinglesUp x = Doc.ruled("", 1, 1, 1, 1, 1);
        x.pick(0, 4);
        x.send();
        Doc.came(x, 1, 1);
        x.pick(0, 4);
        x.pick(0, 5);
        x.send();
        Doc.came(x, 4);
        for (int place = 0; place < 4; place++) {
            doc.is("passed twice, " + place, 2, x.group(0, place, 5));
        }
        x.pick(0, 2);
        x.send();
        // By NUMBER: 0 and 1 were passed three times, 3 twice, 7 never.
        doc.stand("they stand", x, 0, 0, 1, 3, 7);
        doc.is("three times", 3, x.group(0, 1, 5));
        doc.is("twice", 2, x.group(0, 2, 5));
        x.set(0, 8);
        x.image(true);
        x.set(4, 4);
        doc.is("BOUND 4: nobody", 0, x.chair());
        x.image(false);
        x.set(4, 3);
        x.chair();
        doc.sat("BOUND 3", x, 0, 1);
        x.image(false);
        x.set(4, 2);
        x.chair();
        doc.sat("BOUND 2", x, 0, 1, 3);
        x.image(false);
        Due.tell(x, 0, "take 1+99*place;");
        x.chair();
        doc.sat("no BOUND: by WORTH alone", x, 7, 3, 1, 0);
        x.image(false);
        Due.tell(x, 0, "take 1+99*place;");
        x.set(4, 3);
        x.chair();
        doc.sat("BOUND goes before WORTH", x, 0, 1, 7, 3);
        x = Doc.ruled("take 1 when place=0;take 2 when place=2;", 1, 1, 1);
        x.pick(0, 1);
        x.send();
        x.set(4, 1);
        x.chair();
        doc.sat("the one passed sits before the one of greater WORTH", x, 0);

        doc.says("if there is none such, of those that FIT with WORTH above 0 that with the greatest;");
        x = Doc.ruled("take place;", 1, 1, 1);
        x.set(4, 1);
        x.chair();
        doc.sat("WORTH 2, 1; not 0", x, 2, 1);
        x.chair();
        doc.sat("now it was passed", x, 0);
    }

    private void byWorth() {
        SinglesUp x = Doc.ruled("take 1-place;", 1, 1, 1);
        x.chair();
        doc.sat("WORTH 1; not 0, not -1", x, 0);
        x = Doc.ruled("take 9999*9999*22;", 1);
        doc.is("WORTH that wraps below 0", 0, x.chair());
        x = Doc.ruled("take 9999*9999*21 when place=2;take 5;", 1, 1, 1);
        x.chair();
        doc.sat("the greatest of all", x, 2, 0, 1);
        x = Doc.ruled("take 1 when size=4;take 9 when size=5;", 5, 4);
        x.chair();
        doc.sat("of those that FIT", x, 1);
        x = Doc.ruled("take 2 when taken=0 and place=1;take 9-place when taken=1;", 1, 1, 1);
        x.chair();
        doc.sat("again and again, WORTH as it is then", x, 1, 0);
    }

    private void ofSeveral() {
        doc.says("of several the first (by LINES, then places).");
        SinglesUp x = Doc.ruled("take 7;");
        Due.tell(x, 4, "line 5 when sort=3;line 1 when size=2;");
        x.come(1, 1, 3);
        x.come(2, 2, 0);
        x.come(1, 1, 0);
        x.come(1, 1, 0);
        x.come(2, 2, 0);
        x.come(1, 1, 3);
        x.set(0, 8);
        x.image(true);
        x.chair();
        doc.sat("of the same WORTH", x, 2, 3, 1, 4, 0, 5);
        x.image(false);
        Due.tell(x, 0, "take 7 when place=0;take 8;");
        x.chair();
        doc.sat("places only within a LINE", x, 3, 4, 5, 2, 1, 0);
        x.image(false);
        Due.tell(x, 0, "");
        x.come(1, 1, 0);
        x.come(2, 2, 0);
        x.come(1, 1, 3);
        x.pick(0, 2);
        x.pick(1, 2);
        x.pick(5, 2);
        x.send();
        x.set(4, 1);
        x.chair();
        doc.sat("PASSED as often", x, 2, 3, 1, 4, 0, 5);
        // Six LINES of which 24 each are SEEN: the last one that is SEEN.
        x = manyLines(1, 1);
        Due.tell(x, 0, "take 1 when line=5 and place>22;");
        x.chair();
        doc.sat("the 144th", x, 143);
    }

    /** 24 groups of this SIZE, who say so much, in each of the six LINES; all are SEEN. */
    private static SinglesUp manyLines(int size, int says) {
        SinglesUp x = new SinglesUp();
        for (int line = 0; line < 6; line++) {
            Due.tell(x, 4, "line " + line + " when 1=1;");
            x.seen(line, 24);
            for (int i = 0; i < 24; i++) {
                x.come(size, says, 0);
            }
        }
        return x;
    }

    private void foundOut() {
        doc.says("If its SIZE is above left, it is FOUND OUT (FOUND is more): it leaves its LINE and goes behind LINE 0"
            + " and now SAYS its SIZE");
        SinglesUp x = Doc.ruled("take 20 when sort=3;take 9-place;", 1, 1, 1, 1, 1);
        Due.tell(x, 4, "line 3 when sort=3;");
        x.come(5, 4, 3);
        x.come(4, 1, 3);
        x.come(6, 1, 3);
        doc.is("4 sits of those that say 1", 4, x.chair());
        doc.sat("by its SIZE", x, 6);
        doc.is("the one that said 4 was FOUND OUT before", 1, x.count(5));
        doc.stand("behind LINE 0", x, 0, 0, 1, 2, 3, 4, 5);
        doc.is("SAYS its SIZE", 5, x.group(0, 5, 2));
        doc.is("its SIZE", 5, x.group(0, 5, 1));
        doc.is("its SORT", 3, x.group(0, 5, 3));
        doc.stand("who said 1 did not FIT any more", x, 3, 7);
        doc.is("and SAYS so still", 1, x.group(3, 0, 2));
        doc.is("four of LINE 0", 4, x.chair());
        doc.is("after 6 was FOUND OUT", 2, x.count(5));
        doc.stand("in LINE 0 now", x, 0, 4, 5, 7);
        x = Doc.ruled("take 9;");
        x.come(2, 1, 0);
        x.come(3, 1, 0);
        x.come(3, 1, 1);
        doc.is("2, then two of 3 that say 1", 2, x.chair());
        doc.is("both FOUND OUT", 2, x.count(5));
        doc.stand("in that order", x, 0, 1, 2);
        doc.is("children stay children", 1, x.group(0, 1, 3));
        x = Doc.ruled("take 9;", 1, 1, 1);
        x.come(2, 1, 0);
        doc.is("one above left", 3, x.chair());
        doc.is("FOUND OUT", 1, x.count(5));
        x = Doc.ruled("take 9;", 1, 1);
        x.come(2, 1, 0);
        doc.is("not above left", 4, x.chair());
        doc.is("not FOUND OUT", 0, x.count(5));
    }

    private void foundOutAndAway() {
        doc.says("(if LINE 0 is full then, it goes away: AWAY is more);");
        SinglesUp x = Doc.ruled("take 9 when line=1;");
        Due.tell(x, 4, "line 1 when sort=3;");
        for (int i = 0; i < 39; i++) {
            x.come(1, 1, 0);
        }
        x.come(5, 4, 3);
        x.chair();
        doc.is("39 stand: it comes", 40, x.line(0, 0));
        doc.is("nobody is AWAY", 0, x.count(6));
        x.come(5, 4, 3);
        x.chair();
        doc.is("40 stand", 40, x.line(0, 0));
        doc.is("it is AWAY", 1, x.count(6));
        doc.is("and FOUND", 2, x.count(5));
        doc.is("and stands nowhere", 0, x.line(1, 0));
        doc.is("it is not one that came", 41, x.told(7));
        // One who sits, or one found out, leaves LINE 0 first.
        x = Doc.ruled("take 9;");
        for (int i = 0; i < 40; i++) {
            x.come(5, 4, 0);
        }
        x.seen(0, 1);
        x.chair();
        doc.is("the front of a full LINE 0 has its place", 0, x.group(0, 39, 0));
        doc.is("nobody is AWAY", 0, x.count(6));
        // All that can be SEEN are found out on one chair: 24 of LINE 0 leave it, 40 have place there.
        x = manyLines(5, 1);
        Due.tell(x, 0, "take 1;");
        doc.is("nobody sits", 0, x.chair());
        doc.is("144 are FOUND", 144, x.count(5));
        doc.is("40 have place", 40, x.line(0, 0));
        doc.is("104 are AWAY", 104, x.count(6));
        doc.is("the first", 0, x.group(0, 0, 0));
        doc.is("the last", 39, x.group(0, 39, 0));
        for (int line = 1; line < 6; line++) {
            doc.is("nobody stands in LINE " + line, 0, x.line(line, 0));
        }
    }

    private void sits() {
        doc.says("else it sits (SIZE seats).");
        SinglesUp x = Doc.ruled("take 9-place;");
        x.come(4, 1, 3);
        x.come(1, 1, 0);
        doc.is("4, who said 1", 4, x.chair());
        doc.is("4 sit", 4, x.last(20));
        doc.is("no seat is left", 0, x.last(1));
        doc.is("GONE of 4", 1, x.count(14));
        doc.is("not of 1", 0, x.count(11));
        x = Doc.ruled("take 1;", 1, 1, 1, 1, 1, 1, 1, 1, 1);
        x.set(0, 8);
        doc.is("eight groups", 8, x.chair());
        doc.sat("one by one", x, 0, 1, 2, 3, 4, 5, 6, 7);
    }

    private void whenNoGroupIsFound() {
        doc.says("When no group is found:");
        SinglesUp x = Doc.ruled("take 9 when size=3;take 1;", 3, 1);
        x.set(0, 2);
        x.parts(3, 1);
        doc.is("1 sits first, though 3 is worth more", 2, x.chair());
        doc.sat("the part last", x, 1, 0);

        doc.says("of groups of SORT 0");
        for (int sort = 0; sort <= 3; sort++) {
            x = Doc.ruled("take 1;", 1);
            x.come(5, 5, sort);
            x.parts(5, 2);
            doc.is("SORT " + sort, sort == 0 ? 4 : 1, x.chair());
        }

        doc.says("that are SEEN,");
        x = Doc.ruled("take 1;", 1, 5);
        x.parts(5, 2);
        x.seen(0, 1);
        doc.is("not the second one of 1", 1, x.chair());
        Doc.came(x, 5);
        doc.is("the front", 3, x.chair());
        x = Doc.ruled("take 1;", 7, 5);
        doc.is("two were SEEN", 0, x.chair());
        x.parts(5, 2);
        x.seen(0, 1);
        doc.is("the second one is not, any more", 0, x.chair());

        doc.says("do not sit,");
        x = Doc.ruled("take 1;", 3);
        x.parts(3, 1);
        doc.is("3 sits, and not a part more of it", 3, x.chair());
        doc.is("one group", 1, x.last(0));
        doc.is("one seat left", 1, x.last(1));
        doc.is("nobody stands", 0, x.line(0, 0));

        doc.says("were not FOUND OUT,");
        x = Doc.ruled("take 1;", 2);
        x.come(3, 2, 0);
        x.parts(3, 1);
        doc.is("3 that said 2 is FOUND OUT, and not parted on this chair", 2, x.chair());
        doc.is("FOUND", 1, x.count(5));
        doc.is("all three stand", 3, x.line(0, 1));
        x.set(0, 2);
        doc.is("on the next it is", 2, x.chair());

        doc.says("SAY their SIZE,");
        x = Doc.ruled("take 1;", 3);
        x.come(3, 2, 0);
        x.parts(3, 1);
        doc.is("3 that says 2", 3, x.chair());
        doc.is("is neither FOUND OUT nor parted", 0, x.count(5));
        doc.is("and stands whole", 3, x.line(0, 1));
        x = Doc.ruled("take 1;", 3, 3);
        x.parts(3, 1);
        doc.is("3 that says 3", 4, x.chair());
    }

    private void partsOfWhom() {
        doc.says("with SIZE above left and PARTS,");
        SinglesUp x = Doc.ruled("take 1 when taken=0;", 2, 2);
        x.parts(2, 1);
        doc.is("2 is not above 2, and has no WORTH now", 2, x.chair());
        x = Doc.ruled("take 1;", 2, 6);
        x.parts(5, 2);
        doc.is("6 without PARTS, beside those of 5", 2, x.chair());
        doc.is("none", 0, x.chair());
        x.parts(6, 3);
        doc.is("with PARTS", 3, x.chair());

        doc.says("and WORTH above 0,");
        for (int worth = 0; worth <= 2; worth++) {
            x = Doc.ruled("take " + worth + "-1;", 5);
            x.parts(5, 1);
            doc.is("WORTH " + (worth - 1), worth == 2 ? 4 : 0, x.chair());
        }
        x = Doc.ruled("take 1 when size=2;take 1 when left=2 and taken=1;", 5, 2);
        x.parts(5, 2);
        doc.is("as it is then", 4, x.chair());
        x = Doc.ruled("take 1 when size=2;take 1 when left=4;", 5, 2);
        x.parts(5, 2);
        doc.is("not as it was", 2, x.chair());
        x = Doc.ruled("take 1 when size=1;", 5, 1);
        x.parts(5, 2);
        x.pick(0, 1);
        x.send();
        x.set(4, 1);
        doc.is("passed as often as BOUND is not WORTH", 0, x.chair());

        doc.says("the first (by LINES, then places)");
        x = Doc.ruled("take 1+place+line;");
        Due.tell(x, 4, "line 1 when size=5;line 2 when size=6;");
        Doc.came(x, 7, 6, 5, 7, 6, 5);
        x.parts(5, 2);
        x.parts(6, 3);
        x.image(true);
        x.chair();
        doc.sat("LINE 1 before LINE 2, whatever their WORTH", x, 2);
        x.image(false);
        x.parts(7, 3);
        x.chair();
        doc.sat("LINE 0 first", x, 0);
        x = manyLines(5, 5);
        x.parts(5, 2);
        Due.tell(x, 0, "take 1 when line=5 and place=23;");
        x.chair();
        doc.sat("the 144th", x, 143);
    }

    private void partsThatFit() {
        doc.says("of which one part is not above left,");
        // 4 sits on 6 seats, or 3 on 4; then 8 = 1 + 7 or 6 = 3 + 3 stands first, 5 = 2 + 3 second.
        SinglesUp x = Doc.ruled("take 1;", 4, 6, 5);
        x.set(0, 6);
        x.parts(6, 3);
        x.parts(5, 2);
        doc.is("2 are left: no part of 6, one of 5", 6, x.chair());
        doc.stand("both stand", x, 0, 1, 2);
        doc.is("6 stay 6", 6, x.group(0, 0, 1));
        doc.is("5 are 3", 3, x.group(0, 1, 1));
        x = Doc.ruled("take 1;", 3, 8, 5);
        x.parts(8, 7);
        x.parts(5, 1);
        doc.is("1 is left: the lesser part of 8", 4, x.chair());
        doc.is("8 are 7", 7, x.group(0, 0, 1));
        doc.is("5 stay 5", 5, x.group(0, 1, 1));
        x = Doc.ruled("take 1;", 4, 8);
        x.parts(8, 1);
        doc.is("0 are left: nobody", 4, x.chair());
        doc.is("8 stay 8", 8, x.group(0, 0, 1));

        doc.says("if no one of SORT 2 sits there:");
        x = Doc.ruled("take 9-place;");
        x.come(1, 1, 2);
        Doc.came(x, 5);
        x.parts(5, 2);
        doc.is("beside a dear one", 1, x.chair());
        doc.is("then alone", 3, x.chair());
    }

    private void greaterPart() {
        doc.says("the greater such part sits, the rest stays (SIZE and what it SAYS are the rest, WAITED, PASSED"
            + " stay);");
        SinglesUp x = Doc.ruled("take 1 when waited>1;", 8, 1);
        x.parts(8, 5);
        x.pick(0, 1);
        x.send();
        x.chair();
        doc.is("waited twice, was passed once", 21, 10 * x.group(0, 0, 4) + x.group(0, 0, 5));
        x.image(true);
        for (int seats = 2; seats <= 7; seats++) {
            x.image(false);
            x.set(0, seats);
            int sits = seats < 3 ? 0 : seats < 5 ? 3 : 5;
            doc.is("on " + seats, sits, x.chair());
            doc.is("SIZE on " + seats, 8 - sits, x.group(0, 0, 1));
            doc.is("SAYS on " + seats, 8 - sits, x.group(0, 0, 2));
            doc.is("its NUMBER", 0, x.group(0, 0, 0));
            doc.is("PASSED stays", 1, x.group(0, 0, 5));
            doc.is("WAITED, and once more as the chair goes", 3, x.group(0, 0, 4));
        }
        x.image(false);
        x.set(0, 8);
        doc.is("on 8 it sits whole", 8, x.chair());
        x = Doc.ruled("take 1;", 6);
        x.parts(6, 3);
        x.set(0, 5);
        doc.is("half", 3, x.chair());
        doc.is("the rest has no PARTS, and needs none", 3, x.chair());
        x = Doc.ruled("take 1;", 8);
        x.parts(8, 3);
        x.parts(5, 3);
        x.parts(2, 1);
        x.set(0, 4);
        doc.is("3 of 8", 3, x.chair());
        doc.is("3 of 5", 3, x.chair());
        doc.is("2", 2, x.chair());
        doc.is("all sat", 8, x.count(2));
    }

    private void goes() {
        doc.says("then, or without one, it goes.");
        SinglesUp x = Doc.ruled("take 1;", 5, 5, 1);
        x.parts(5, 1);
        x.seen(0, 2);
        x.set(0, 8);
        doc.is("5, then 1 of 5; nobody is SEEN anew", 6, x.chair());
        x = Doc.ruled("take 1;", 8, 8, 8);
        x.parts(8, 2);
        x.set(0, 5);
        doc.is("one part, though 3 seats are left", 2, x.chair());
        doc.is("3 are EMPTY", 3, x.last(1));
        doc.is("the second one stays whole", 8, x.group(0, 1, 1));
        x = Doc.ruled("take 1;", 5, 1);
        x.parts(5, 2);
        x.seen(0, 1);
        doc.is("3 of 5", 3, x.chair());
        x = Doc.ruled("take 1 when size>4;take 1 when taken=1 and left=1;", 5, 1);
        x.parts(5, 2);
        doc.is("nobody sits after the part", 3, x.chair());
        doc.is("a chair without anybody goes, too", 0, new SinglesUp().chair());

        doc.says("(Places are as when the chair came; those who sit, or were FOUND OUT, leave their LINES as it goes;"
            + " who was FOUND OUT comes behind LINE 0 then.)");
        x = Doc.ruled("take 9-place when taken=0;take 1 when place=3;take 1 when place=1;", 1, 1, 1, 1);
        x.chair();
        doc.sat("places stay as others sit", x, 0, 1, 3);
        doc.stand("they leave as it goes", x, 0, 2);
        x = Doc.ruled("take 9 when sort=3;take 5 when place=1 and behind=1;take 4 when place=2;");
        x.come(5, 4, 3);
        Doc.came(x, 1, 1);
        x.chair();
        doc.sat("places stay as one is FOUND OUT", x, 1, 2);
        doc.stand("it comes behind", x, 0, 0);
        // Who comes behind LINE 0 is not there before the chair goes: it can't be SEEN anew, nor be counted.
        x = Doc.ruled("take 9 when sort=3;take 1 when behind=1;take 1 when behind=0;");
        Due.tell(x, 4, "line 2 when sort=3;");
        x.come(5, 4, 3);
        Doc.came(x, 1, 1, 1);
        x.chair();
        doc.sat("nobody stands behind the last one of LINE 0", x, 2, 3);
        doc.stand("but the one FOUND OUT then", x, 0, 1, 0);
    }
}

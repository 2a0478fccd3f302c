/** The words of part 3 that tell how a chair goes, who comes, what is done by hand, and BEST filling. */
final class GoEdges {
    private final Doc doc;

    GoEdges(Doc doc) {
        this.doc = doc;
    }

    void all() {
        doc.section("==== 3.");
        asItGoes();
        whoSits();
        whoStays();
        time();
        comers();
        turns();
        byHand();
        judged();
        dear();
        sent();
        best();
        bestChildren();
        bestOfSeveral();
        look();
    }

    private void asItGoes() {
        doc.says("As it goes: EMPTY is more by left,");
        SinglesUp x = Doc.ruled("take 1;", 3);
        x.chair();
        doc.is("1 of 4", 1, x.count(1));
        x.set(0, 8);
        x.chair();
        doc.is("8 of 8", 9, x.count(1));
        Doc.came(x, 8);
        x.chair();
        doc.is("none of 8", 9, x.count(1));
        Doc.came(x, 1);
        x.pick(0, 0);
        x.send();
        doc.is("by hand", 16, x.count(1));

        doc.says("PEOPLE by who sits;");
        doc.is("3, 0, 8 and 1", 12, x.count(2));
        x.parts(5, 3);
        Doc.came(x, 5);
        x.set(0, 4);
        x.chair();
        doc.is("a part of 3", 15, x.count(2));
        x.come(4, 1, 3);
        x.set(0, 3);
        x.chair();
        doc.is("2, and not who was FOUND OUT", 17, x.count(2));
    }

    private void whoSits() {
        doc.says("for each group that sits (a part, too): GONE of its SIZE (what sits) is more by one,");
        SinglesUp x = Doc.ruled("take 1;", 1, 1, 5);
        x.parts(5, 2);
        x.chair();
        doc.is("two of 1", 2, x.count(11));
        doc.is("a part of 2", 1, x.count(12));
        doc.is("none of 3", 0, x.count(13));
        doc.is("none of 5", 0, x.count(15));
        x.chair();
        doc.is("the rest of 3", 1, x.count(13));
        x.come(4, 1, 3);
        x.chair();
        doc.is("by SIZE, not what it said", 1, x.count(14));
        doc.is("two of 1 still", 2, x.count(11));
        for (int size = 1; size <= 8; size++) {
            x = Doc.ruled("take 1;", size);
            x.set(0, 8);
            x.chair();
            for (int k = 1; k <= 8; k++) {
                doc.is("GONE of " + k + ", " + size + " went", k == size ? 1 : 0, x.count(10 + k));
            }
        }

        doc.says("WAIT of that by its WAITED, LONGEST at least that.");
        for (int size = 1; size <= 8; size++) {
            x = Doc.ruled("take 1;", size);
            x.set(0, 8);
            x.send();
            x.send();
            x.send();
            x.chair();
            doc.is("WAIT of " + size, 3, x.count(20 + size));
            doc.is("LONGEST of " + size, 3, x.count(30 + size));
            Doc.came(x, size);
            x.send();
            x.chair();
            doc.is("3 and 1", 4, x.count(20 + size));
            doc.is("the longer of both", 3, x.count(30 + size));
            Doc.came(x, size);
            x.chair();
            doc.is("and 0", 4, x.count(20 + size));
            Doc.came(x, size);
            for (int i = 0; i < 4; i++) {
                x.send();
            }
            x.chair();
            doc.is("and 4", 8, x.count(20 + size));
            doc.is("longer than all", 4, x.count(30 + size));
            doc.is("not of another SIZE", 0, x.count(20 + size % 8 + 1) + x.count(30 + size % 8 + 1));
        }
        x = Doc.ruled("take 1;", 5);
        x.parts(5, 2);
        x.send();
        x.send();
        x.chair();
        doc.is("a part that waited twice", 2, x.count(23));
        x.chair();
        doc.is("the rest of it waited thrice", 3, x.count(22));
        doc.is("LONGEST of the rest", 3, x.count(32));
    }

    private void whoStays() {
        doc.says("Then of each group in the LINES (but for those who come behind LINE 0 then) WAITED is one more,");
        SinglesUp x = Doc.ruled("take 9 when sort=3;take 1 when size=2;");
        Due.tell(x, 4, "line 5 when sort=1;");
        Doc.came(x, 1, 2, 1);
        x.come(5, 2, 3);
        x.come(1, 1, 1);
        for (int i = 0; i < 12; i++) {
            x.come(1, 1, 0);
        }
        x.chair();
        doc.is("one FOUND OUT, one sat", 2, x.count(5) + x.last(0));
        doc.is("before the one that sat", 1, x.group(0, 0, 4));
        doc.is("behind it", 1, x.group(0, 1, 4));
        doc.is("in another LINE", 1, x.group(5, 0, 4));
        doc.is("out of sight", 1, x.group(0, 13, 4));
        doc.is("the one FOUND OUT", 0, x.group(0, 14, 4));
        doc.is("is the last one", 3, x.group(0, 14, 0));
        x.chair();
        doc.is("as all the others", 1, x.group(0, 14, 4));
        doc.is("twice", 2, x.group(0, 0, 4));
        x = Doc.ruled("take 1 when waited>1;");
        x.come(5, 4, 3);
        Doc.came(x, 1, 1);
        x.pick(0, 1);
        x.send();
        x.send();
        x.send();
        Due.tell(x, 0, "take 1 when sort=3;");
        x.chair();
        doc.is("the one FOUND OUT keeps its WAITED", 3, x.group(0, 1, 4));
        doc.is("and its PASSED", 1, x.group(0, 1, 5));

        doc.says("PASSED one more if one that stood behind it in its LINE sits now (a part, too).");
        x = Doc.ruled("take 1 when size=2 or size=5;");
        Due.tell(x, 4, "line 1 when sort=3;");
        Doc.came(x, 1, 1, 2, 1, 2, 1);
        x.come(1, 1, 3);
        x.come(2, 2, 3);
        x.set(0, 8);
        x.parts(5, 3);
        x.chair();
        doc.sat("2, 2, 2", x, 2, 4, 7);
        int[] passed = {1, 1, 1, 0};
        for (int place = 0; place < 4; place++) {
            doc.is("once, if two sit that stood behind it, " + place, passed[place], x.group(0, place, 5));
        }
        doc.is("LINE 1 by its own", 1, x.group(1, 0, 5));
        x.come(2, 2, 3);
        x.chair();
        doc.is("not by another LINE's", 1, x.group(0, 0, 5));
        doc.is("LINE 1 again", 2, x.group(1, 0, 5));
        x.send();
        doc.is("nobody sits, nobody is PASSED", 2, x.group(1, 0, 5));
        Doc.came(x, 5, 1);
        x.set(0, 4);
        doc.is("a part of 5", 3, x.chair());
        doc.is("PASSED by a part", 2, x.group(0, 0, 5));
        doc.is("all that stood before it", 1, x.group(0, 3, 5));
        doc.is("not by its own part", 0, x.group(0, 4, 5));
        doc.is("the rest", 2, x.group(0, 4, 1));
        doc.is("not by one before it", 0, x.group(0, 5, 5));
        x = Doc.ruled("take 9 when sort=3;", 1);
        x.come(5, 4, 3);
        x.chair();
        doc.is("not by one FOUND OUT, who does not sit", 0, x.group(0, 0, 5));
        x = Doc.ruled("take 1 when line>0;");
        Due.tell(x, 4, "line 1 when first=40;");
        for (int i = 0; i < 41; i++) {
            x.come(1, 1, 0);
        }
        doc.is("the front of LINE 1", 1, x.chair());
        doc.is("does not stand behind the last of a full LINE 0", 0, x.group(0, 39, 5));
        doc.is("nor behind its front", 0, x.group(0, 0, 5));
        x = Doc.ruled("take 9 when sort=3;take 1 when place=2;");
        x.come(3, 1, 3);
        Doc.came(x, 1, 4);
        x.set(0, 4);
        x.pick(0, 1);
        x.send();
        x.chair();
        doc.is("who sits in front of all passes nobody", 0, x.group(0, 0, 5));
    }

    private void time() {
        doc.says("CHAIRS are one more, TIME is SECONDS more;");
        SinglesUp x = Doc.ruled("take 1;", 1);
        x.set(1, 7);
        x.chair();
        doc.is("a CHAIR by a RULE", 1, x.count(0));
        doc.is("its TIME", 7, x.count(3));
        x.send();
        doc.is("one by hand", 2, x.count(0));
        doc.is("its TIME, too", 14, x.count(3));
        x.run(3);
        doc.is("three TURNS", 5, x.count(0));
        doc.is("their TIME", 35, x.count(3));

        doc.says("with FALLS above 0 a DRAW of 1000: if it is below FALLS, TIME is HALT more, STOPS one more.");
        // The draws from STATE 0: 563, 577, 494, 947.
        x = new SinglesUp();
        x.set(3, 563);
        x.chair();
        doc.is("563 is not below 563", 0, x.count(4));
        doc.is("6 seconds", 6, x.count(3));
        doc.is("a DRAW", 1013904223, x.told(8));
        x.set(3, 578);
        x.send();
        doc.is("577 is below 578, by hand, too", 1, x.count(4));
        doc.is("6 and 40 more", 52, x.count(3));
        x.set(3, 0);
        x.chair();
        doc.is("FALLS 0: no DRAW", 1196435762, x.told(8));
        doc.is("no stop", 1, x.count(4));
        doc.is("6 more", 58, x.count(3));
        x.set(3, 1);
        x.chair();
        doc.is("FALLS 1: a DRAW", -775096599, x.told(8));
        doc.is("494 is not below 1", 1, x.count(4));
        x.set(3, 1000);
        x.chair();
        doc.is("947 is below 1000", 2, x.count(4));
    }

    private void comers() {
        doc.says("COMERS 0 .. 7: a SIZE, what they SAY, a SORT, a CHANCE 0 .. 1000 (0 at first).");
        for (int k = 0; k <= 7; k++) {
            SinglesUp x = new SinglesUp();
            x.run(2);
            doc.is("none at first", 0, x.told(7) + x.told(8));
            doc.is("COMER " + k, true, x.comer(k, 8 - k, 8 - k, k % 4, 1000));
            x.run(1);
            doc.is("SIZE", 8 - k, x.group(0, 0, 1));
            doc.is("what they SAY", 8 - k, x.group(0, 0, 2));
            doc.is("SORT", k % 4, x.group(0, 0, 3));
            doc.is("one DRAW", 1013904223, x.told(8));
            doc.is("SIZE 0", false, x.comer(k, 0, 0, 0, 1));
            doc.is("SIZE 9", false, x.comer(k, 9, 1, 0, 1));
            doc.is("SAYS 0", false, x.comer(k, 3, 0, 0, 1));
            doc.is("SAYS more than its SIZE", false, x.comer(k, 3, 4, 0, 1));
            doc.is("SORT -1", false, x.comer(k, 1, 1, -1, 1));
            doc.is("SORT 4", false, x.comer(k, 1, 1, 4, 1));
            doc.is("CHANCE -1", false, x.comer(k, 1, 1, 0, -1));
            doc.is("CHANCE 1001", false, x.comer(k, 1, 1, 0, 1001));
            x.run(1);
            doc.is("as before", 8 - k, x.group(0, 1, 1));
            doc.is("another one in its place", true, x.comer(k, 8, 1, 3, 1000));
            x.run(1);
            doc.is("its SIZE", 8, x.group(0, 2, 1));
            doc.is("what it SAYS", 1, x.group(0, 2, 2));
            doc.is("CHANCE 0", true, x.comer(k, 8, 1, 3, 0));
            int state = x.told(8);
            x.run(1);
            doc.is("nobody comes", 3, x.told(7));
            doc.is("no DRAW", state, x.told(8));
        }
        SinglesUp x = new SinglesUp();
        doc.is("COMER 8", false, x.comer(8, 1, 1, 0, 1));
        doc.is("COMER -1", false, x.comer(-1, 1, 1, 0, 1));
    }

    private void turns() {
        doc.says("A TURN: COMER by COMER, 0 first, with a CHANCE above 0, a DRAW of 1000: if it is below CHANCE,"
            + " a group comes;");
        // The draws from STATE 0: 563, 577, 494, 947, 749, 198, 764, 15.
        int[] draws = {563, 577, 494, 947, 749, 198, 764, 15};
        SinglesUp x = new SinglesUp();
        for (int k = 0; k < 8; k++) {
            x.comer(k, k + 1, k + 1, 0, draws[k] + (k % 2));
        }
        x.run(1);
        doc.stand("those whose DRAW is below CHANCE", x, 0, 0, 1, 2, 3);
        for (int i = 0; i < 4; i++) {
            doc.is("COMERS 1, 3, 5 and 7", 2 * i + 2, x.group(0, i, 1));
        }
        doc.is("eight draws", -1546035288, x.told(8));
        x = new SinglesUp();
        x.comer(2, 2, 2, 0, 563);
        x.comer(6, 6, 6, 0, 578);
        x.run(1);
        doc.stand("a COMER without a CHANCE draws nothing", x, 0, 0);
        doc.is("the second DRAW is COMER 6's", 6, x.group(0, 0, 1));
        x = new SinglesUp();
        x.comer(0, 1, 1, 0, 1);
        x.state(634785765);
        x.run(1);
        doc.is("0 is below 1", 1, x.told(7));

        doc.says("then a CHAIR comes, is FILLED and goes.");
        x = Doc.ruled("take 1;");
        x.comer(0, 3, 3, 0, 1000);
        x.comer(1, 1, 1, 0, 1000);
        doc.is("both sit at once", 4, x.run(1));
        doc.is("one CHAIR", 1, x.count(0));
        doc.is("they did not wait", 0, x.count(23));
        x.set(3, 1000);
        x.state(0);
        x.run(1);
        doc.is("its DRAW comes last: three draws", -775096599, x.told(8));
        x = Doc.ruled("take 1;");
        for (int i = 0; i < 40; i++) {
            x.come(4, 4, 0);
        }
        x.comer(0, 4, 4, 0, 1000);
        x.run(1);
        doc.is("who comes to a full LINE goes away before the CHAIR comes", 1, x.count(6));
        doc.is("then it goes", 39, x.line(0, 0));
    }

    private void byHand() {
        doc.says("BY HAND: groups are picked for the next chair one by one (by LINE and place as they stand),"
            + " JUDGED each:");
        SinglesUp x = new SinglesUp();
        Due.tell(x, 4, "line 5 when size=2;");
        Doc.came(x, 1, 2, 1);
        doc.is("LINE 5", 0, x.pick(5, 0));
        doc.is("one more", 0, x.pick(0, 1));
        doc.is("places stay as they stand", 0, x.pick(0, 0));
        doc.is("three", 3, x.told(6));
        x.send();
        doc.sat("in the order in which they were picked", x, 1, 2, 0);

        doc.says("1 there is no such group or it is picked already,");
        x = new SinglesUp();
        doc.is("an empty LINE", 1, x.pick(0, 0));
        Doc.came(x, 1, 1);
        doc.is("place 2 of 2", 1, x.pick(0, 2));
        doc.is("place -1", 1, x.pick(0, -1));
        doc.is("LINE -1", 1, x.pick(-1, 0));
        doc.is("LINE 6", 1, x.pick(6, 0));
        doc.is("place 40", 1, x.pick(0, 40));
        doc.is("the greatest ints", 1, x.pick(Integer.MAX_VALUE, Integer.MAX_VALUE));
        doc.is("the least ints", 1, x.pick(Integer.MIN_VALUE, Integer.MIN_VALUE));
        doc.is("there is", 0, x.pick(0, 1));
        doc.is("picked already", 1, x.pick(0, 1));
        doc.is("the other one is not", 0, x.pick(0, 0));
        doc.is("picked already, too", 1, x.pick(0, 0));
        x.seen(0, 1);
        doc.is("picked already goes before not SEEN", 1, x.pick(0, 1));

        doc.says("2 it is not SEEN,");
        x = new SinglesUp();
        x.seen(0, 1);
        Doc.came(x, 1, 1, 8);
        x.come(1, 1, 1);
        doc.is("the front", 0, x.pick(0, 0));
        doc.is("the second of 1", 2, x.pick(0, 1));
        doc.is("goes before its SIZE", 2, x.pick(0, 2));
        x.set(0, 4);
        doc.is("goes before children", 2, x.pick(0, 3));
        doc.is("nobody is picked", 0, x.told(6));

        doc.says("3 its SIZE is above left,");
        x = new SinglesUp();
        Doc.came(x, 4, 5, 3, 1, 2);
        x.come(5, 1, 3);
        doc.is("5 of 4", 3, x.pick(0, 1));
        doc.is("5, who SAYS 1", 3, x.pick(0, 5));
        doc.is("3", 0, x.pick(0, 2));
        doc.is("2 of 1", 3, x.pick(0, 4));
        doc.is("1 of 1", 0, x.pick(0, 3));
        doc.is("none is left", 3, x.pick(0, 4));
        x.set(0, 4);
        doc.is("4 of 4", 0, x.pick(0, 0));
    }

    private void judged() {
        doc.says("4 children without another one,");
        SinglesUp x = new SinglesUp();
        x.come(1, 1, 1);
        x.come(1, 1, 1);
        x.come(1, 1, 3);
        doc.is("without any", 4, x.pick(0, 0));
        doc.is("without any, the other", 4, x.pick(0, 1));
        doc.is("one alone", 0, x.pick(0, 2));
        doc.is("with another one", 0, x.pick(0, 1));
        doc.is("with another one, too", 0, x.pick(0, 0));
        x = new SinglesUp();
        x.come(5, 5, 1);
        doc.is("its SIZE goes before", 3, x.pick(0, 0));
    }

    private void dear() {
        doc.says("5 dear and not alone (itself, or one that is picked);");
        SinglesUp x = new SinglesUp();
        x.come(1, 1, 2);
        x.come(1, 1, 0);
        x.come(1, 1, 1);
        x.come(1, 1, 3);
        x.come(1, 1, 2);
        doc.is("alone", 0, x.pick(0, 0));
        for (int place = 1; place <= 4; place++) {
            doc.is("one that is picked, " + place, 5, x.pick(0, place));
        }
        doc.is("one is picked", 1, x.told(6));
        x.set(0, 4);
        x.pick(0, 1);
        doc.is("itself", 5, x.pick(0, 0));
        doc.is("itself, the other", 5, x.pick(0, 4));
        doc.is("no dear one is picked", 0, x.pick(0, 3));
        x = new SinglesUp();
        x.come(4, 4, 2);
        Doc.came(x, 1);
        x.pick(0, 0);
        doc.is("its SIZE goes before", 3, x.pick(0, 1));

        doc.says("else it is picked.");
        doc.is("one", 1, x.told(6));
        doc.is("it sits", 4, x.send());
        for (int sort = 0; sort <= 3; sort++) {
            x = new SinglesUp();
            x.come(4, 4, sort);
            doc.is("SORT " + sort, sort == 1 ? 4 : 0, x.pick(0, 0));
            doc.is("SORT " + sort + " is picked", sort == 1 ? 0 : 1, x.told(6));
        }
    }

    private void sent() {
        doc.says("SENT, the chair goes with those picked as above (no one is FOUND OUT, parted).");
        SinglesUp x = Doc.ruled("take 1;");
        x.come(3, 1, 3);
        x.come(1, 1, 0);
        x.come(5, 5, 0);
        x.come(5, 4, 3);
        x.parts(5, 2);
        x.pick(0, 0);
        doc.is("3", 3, x.send());
        doc.is("no one is FOUND OUT", 0, x.count(5));
        doc.stand("nor comes behind", x, 0, 1, 2, 3);
        doc.is("no one is parted", 5, x.group(0, 1, 1));
        doc.is("they waited", 1, x.group(0, 0, 4));
        doc.is("GONE", 1, x.count(13));
        doc.is("1 is EMPTY", 1, x.count(1));
        x.pick(0, 0);
        x.send();
        x.pick(0, 0);
        doc.is("nobody", 0, x.send());
        doc.is("one seat of 4, 3 and all", 8, x.count(1));
        doc.is("the CHAIR went", 3, x.count(0));
        doc.is("its seats left", 4, x.last(1));
        doc.is("it passed nobody", 0, x.group(0, 0, 5));
    }

    private void best(String call, SinglesUp x, int seats, int... spots) {
        doc.is(call + ": seats", seats, x.best(0));
        doc.is(call + ": groups", spots.length, x.best(1));
        for (int i = 0; i < spots.length; i++) {
            doc.is(call + ": the " + i + "th", spots[i], x.best(10 + i));
        }
        doc.is(call + ": no more", -1, x.best(10 + spots.length));
    }

    private void best() {
        doc.says("BEST filling by what is SEEN:");
        SinglesUp x = Doc.ruled("", 1, 1, 1, 1);
        best("four", x, 4, 0, 1, 2, 3);
        x.seen(0, 3);
        best("three of them", x, 3, 0, 1, 2);
        x.seen(0, 1);
        best("one of them", x, 1, 0);
        best("nobody", new SinglesUp(), 0);
        x = new SinglesUp();
        for (int line = 0; line < 6; line++) {
            Due.tell(x, 4, "line " + line + " when 1=1;");
            x.seen(line, 24);
            for (int i = 0; i < 26; i++) {
                x.come(line == 5 && i == 23 ? 7 : line == 5 && i > 23 ? 1 : 6, 1, 0);
            }
        }
        x.set(0, 7);
        best("the last one of 144", x, 7, 523);
        x.seen(5, 23);
        best("of 143", x, 6, 0);

        doc.says("groups of SORTS 0, 1, 3,");
        for (int sort = 0; sort <= 3; sort++) {
            x = Doc.ruled("", 1);
            x.come(2, 2, sort);
            if (sort == 2) {
                best("SORT 2 is none", x, 1, 0);
            } else {
                best("SORT " + sort, x, 3, 0, 1);
            }
        }
        x = new SinglesUp();
        x.come(4, 4, 2);
        best("SORT 2 alone is none", x, 0);

        doc.says("in their order (by LINES, then places),");
        x = new SinglesUp();
        Due.tell(x, 4, "line 5 when sort=3;line 1 when size=2;");
        x.come(1, 1, 3);
        x.come(2, 2, 0);
        x.come(1, 1, 0);
        x.come(1, 1, 0);
        x.set(0, 8);
        best("by LINES", x, 5, 0, 1, 100, 500);
        x.set(0, 3);
        best("the first of them", x, 3, 0, 1, 500);
        x.seen(0, 1);
        best("then", x, 3, 0, 100);

        doc.says("by SIZE:");
        x = new SinglesUp();
        x.come(5, 1, 3);
        x.come(3, 1, 3);
        best("whatever they SAY", x, 3, 1);

        doc.says("of all choices that are not above SEATS together,");
        for (int seats = 2; seats <= 8; seats++) {
            x = Doc.ruled("", 8, 7, 6, 5, 4, 3, 2);
            x.set(0, seats);
            best("one of " + seats, x, seats, 8 - seats);
            x = Doc.ruled("", seats + 1 > 8 ? 1 : seats + 1, 1);
            x.set(0, seats);
            best("one above " + seats, x, seats == 8 ? 2 : 1, seats == 8 ? new int[] {0, 1} : new int[] {1});
        }
        x = Doc.ruled("", 1, 1, 1, 1, 1, 1, 1, 1, 1);
        x.set(0, 8);
        best("eight of nine", x, 8, 0, 1, 2, 3, 4, 5, 6, 7);
    }

    private void bestChildren() {
        doc.says("in which children are with one of another SORT,");
        SinglesUp x = new SinglesUp();
        x.come(2, 2, 1);
        x.come(2, 2, 1);
        best("children alone", x, 0);
        x.come(4, 4, 2);
        best("nor with a dear one", x, 0);
        x.come(1, 1, 3);
        best("one alone and the first of them", x, 3, 0, 3);
        x.come(2, 2, 0);
        best("a plain one and the first of them", x, 4, 0, 4);
        x.set(0, 5);
        best("both of them with the single", x, 5, 0, 1, 3);
        x.set(0, 2);
        best("no place for children", x, 2, 4);

        manyChildren();

        doc.says("that which fills most;");
        best("2 rather than 1", x, 2, 4);
        x = Doc.ruled("", 3, 2, 2);
        best("2 and 2 rather than 3", x, 4, 1, 2);
        x = Doc.ruled("", 3, 3, 4);
        best("4 rather than 3", x, 4, 2);
        x = Doc.ruled("", 3, 3);
        best("3, for 6 is above", x, 3, 0);
        x = Doc.ruled("take 1;", 1, 1, 1, 1, 1);
        x.set(0, 8);
        best("five", x, 5, 0, 1, 2, 3, 4);
        x.set(0, 4);
        x.chair();
        x.set(0, 8);
        best("one, as four have gone", x, 1, 0);
    }

    private void manyChildren() {
        SinglesUp x = new SinglesUp();
        Due.tell(x, 4, "line 3 when first=20;");
        for (int i = 0; i < 20; i++) {
            x.come(1, 1, 1);
        }
        for (int i = 0; i < 24; i++) {
            x.come(2, 2, 0);
        }
        x.seen(0, 24);
        x.seen(3, 24);
        for (int seats = 2; seats <= 8; seats++) {
            x.set(0, seats);
            doc.is("so many children and the first of the others on " + seats, seats, x.best(0));
            doc.is("groups", seats - 1, x.best(1));
            doc.is("the last one", 300, x.best(8 + seats));
            doc.is("the last child", seats == 2 ? -1 : seats - 3, seats == 2 ? x.best(11) : x.best(7 + seats));
        }
    }

    private void bestOfSeveral() {
        doc.says("of several that which has the first group in it where they are unlike.");
        best("the first of two", Doc.ruled("", 4, 4), 4, 0);
        best("1 and 3 before 4", Doc.ruled("", 1, 4, 3), 4, 0, 2);
        best("4 before 1 and 3", Doc.ruled("", 4, 1, 3), 4, 0);
        best("with the first, with the second", Doc.ruled("", 2, 1, 1, 2), 4, 0, 1, 2);
        best("with the first, without the second", Doc.ruled("", 2, 3, 2, 1, 1), 4, 0, 2);
        best("not with the first, if that fills less", Doc.ruled("", 1, 2, 2), 4, 1, 2);
        SinglesUp x = new SinglesUp();
        x.come(1, 1, 1);
        x.come(3, 3, 0);
        x.come(4, 4, 0);
        best("children first", x, 4, 0, 1);
        x = new SinglesUp();
        x.come(2, 2, 1);
        x.come(2, 2, 1);
        x.come(2, 2, 0);
        best("children, then none without another one", x, 4, 0, 2);
        x.set(0, 6);
        best("both, and the other one", x, 6, 0, 1, 2);
        x = new SinglesUp();
        x.come(1, 1, 0);
        x.come(1, 1, 1);
        x.come(2, 2, 1);
        x.come(3, 3, 3);
        best("after one of another SORT", x, 4, 0, 1, 2);
    }

    private void look() {
        doc.says("LOOK of a LINE: how many more seats BEST fills, if one more of it was SEEN.");
        SinglesUp x = Doc.ruled("", 3, 2, 1, 2);
        doc.is("all are SEEN", 0, x.look(0));
        x.seen(0, 1);
        doc.is("2 beside 3", 0, x.look(0));
        x.seen(0, 2);
        doc.is("1 beside 3", 1, x.look(0));
        x.seen(0, 3);
        doc.is("full already", 0, x.look(0));
        x.seen(0, 4);
        doc.is("nobody stands there", 0, x.look(0));
        doc.is("an empty LINE", 0, x.look(1));
        doc.is("what is SEEN stays", 4, x.best(0));
        x.seen(0, 2);
        x.look(0);
        doc.is("what is SEEN stays 2", 3, x.best(0));
        for (int line = 0; line <= 5; line++) {
            x = new SinglesUp();
            Due.tell(x, 4, "line " + line + " when size=2;line " + (5 - line) + " when size=1;");
            x.seen(line, 1);
            Doc.came(x, 2, 2, 1);
            x.set(0, 8);
            doc.is("2 more in LINE " + line, 2, x.look(line));
            doc.is("none more in LINE " + (5 - line), 0, x.look(5 - line));
        }
    }
}

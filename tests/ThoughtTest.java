/** Promises 24 to 28 and 30: what would come, in thought. */
public final class ThoughtTest {
    private static final Due due = new Due();

    public static void main(String[] args) {
        promise24Thought();
        promise24ThoughtWithComers();
        promise24WhatComesToIt();
        promise24NothingStays();
        promise24Wrong();
        promise25Price();
        promise26Till();
        promise26TillAway();
        promise27Together();
        promise27ThatCannotBe();
        promise27ItPays();
        promise28Needed();
        promise30Which();
        promise30WhichTies();
        promise30WhichAll();
        due.end("ThoughtTest");
    }

    private static SinglesUp came(String rule, int... sizes) {
        SinglesUp x = new SinglesUp();
        due.is("24: " + rule, true, Due.tell(x, 0, rule) >= 0);
        for (int size : sizes) {
            x.come(size, size, 0);
        }
        return x;
    }

    private static void thought(SinglesUp x, int rule, int bound, int seats, int n, int... gains) {
        for (int what = 0; what < gains.length; what++) {
            due.is("24: rule " + rule + ", bound " + bound + ", seats " + seats + ", n " + n + ", what " + what, gains[what],
                x.thought(rule, bound, seats, n, what));
        }
    }

    private static void promise24Thought() {
        SinglesUp x = came("take 9-place;", 3, 2, 2, 1);
        Due.tell(x, 2, "take size when size<3;");
        x.comer(0, 1, 1, 0, 0);
        // 3 and 1; 2 and 2; none.
        thought(x, 0, 0, 4, 1, 0, 4, 0, 0, 0, 0);
        thought(x, 0, 0, 4, 2, 0, 8, 2, 0, 0, 1);
        thought(x, 0, 0, 4, 3, 4, 8, 2, 0, 0, 1);
        // 2 and 2; 1; none: 3 stays.
        thought(x, 2, 0, 4, 3, 7, 5, 1, 0, 0, 1);
        // With BOUND 1 the 3, passed once, goes with the 1.
        thought(x, 2, 1, 4, 2, 0, 8, 2, 0, 0, 1);
        thought(x, 2, 2, 4, 2, 3, 5, 1, 0, 0, 1);
        thought(x, 0, 0, 5, 1, 0, 5, 0, 0, 0, 0);
        thought(x, 0, 0, 8, 40, 8 * 40 - 8, 8, 0, 0, 0, 0);
        thought(x, 1, 0, 2, 5, 10, 0, 0, 0, 0, 0);
        due.is("24: the 0th chair", 4, x.chair());
        thought(x, 0, 0, 4, 2, 4, 4, 2, 0, 0, 1);
        x.chair();
        thought(x, 1, 99, 4, 2, 8, 0, 0, 0, 0, 1);
    }

    private static void promise24ThoughtWithComers() {
        SinglesUp x = came("take 9-place;");
        x.comer(2, 3, 1, 3, 1000);
        for (int i = 0; i < 39; i++) {
            x.come(4, 4, 0);
        }
        // One comes with each chair. It is not seen; but the 41st finds no place.
        x.seen(0, 1);
        thought(x, 0, 0, 4, 3, 0, 12, 3, 0, 0, 2);
        thought(x, 1, 0, 4, 3, 12, 0, 0, 2, 0, 0);
        x.seen(0, 2);
        x = came("take 1;", 3);
        x.comer(2, 3, 1, 3, 1000);
        // 3, then the one that says 1, which is found out and sits later.
        thought(x, 0, 0, 4, 1, 1, 3, 0, 0, 1, 0);
        thought(x, 0, 0, 4, 2, 2, 6, 0, 0, 2, 0);
        x = came("take 1;", 1);
        x.comer(0, 4, 4, 0, 563);
        x.set(3, 577);
        // The draws are 563 (nobody comes) and 577, then 494 (one comes).
        thought(x, 0, 0, 4, 1, 3, 1, 0, 0, 0, 0);
        thought(x, 0, 0, 4, 2, 3, 5, 0, 0, 0, 0);
        x.set(3, 0);
        // Now 563, 577, 494.
        thought(x, 0, 0, 4, 2, 7, 1, 0, 0, 0, 0);
        thought(x, 0, 0, 4, 3, 7, 5, 0, 0, 0, 0);
    }

    /** What was AWAY, FOUND or WAITED before does not come to it; the LONGEST stays. */
    private static void promise24WhatComesToIt() {
        SinglesUp x = came("take 1 when line=1; take 1 when size=8;");
        Due.tell(x, 4, "line 1 when sort=3;");
        for (int i = 0; i < 42; i++) {
            x.come(1, 1, 0);
        }
        x.come(5, 1, 3);
        x.chair();
        due.is("24: AWAY", 3, x.count(6));
        due.is("24: FOUND", 1, x.count(5));
        x.come(5, 1, 3);
        x.comer(0, 1, 1, 0, 1000);
        thought(x, 0, 0, 4, 2, 8, 0, 0, 3, 1, 0);
        x = came("take 9-place;", 8, 8, 8);
        x.set(0, 8);
        thought(x, 0, 0, 8, 3, 0, 24, 3, 0, 0, 2);
        x.run(3);
        thought(x, 0, 0, 8, 1, 8, 0, 0, 0, 0, 2);
    }

    private static void promise24NothingStays() {
        SinglesUp x = came("take 9-place;", 2, 5, 2, 2);
        x.comer(0, 2, 2, 0, 500);
        x.parts(5, 2);
        x.pick(0, 2);
        x.set(3, 300);
        x.thought(0, 2, 6, 40, 0);
        x.price(2, 40);
        x.till(0, 1);
        x.together(0, 0, 0, 2, 1);
        x.needed(40);
        x.which(20, 0);
        due.is("24: STATE", 0, x.told(8));
        due.is("24: SEATS", 4, x.told(0));
        due.is("24: BOUND", 0, x.told(4));
        due.is("24: the RULE", 0, x.told(5));
        due.is("24: picked", 1, x.told(6));
        due.is("24: came", 4, x.told(7));
        due.is("24: stand", 4, x.line(0, 0));
        due.is("24: people", 11, x.line(0, 1));
        due.is("24: not parted", 5, x.group(0, 1, 1));
        for (int what = 0; what <= 6; what++) {
            due.is("24: count " + what, 0, x.count(what));
        }
        due.is("24: none went", -1, x.last(0));
        due.is("24: none past", -1, x.past(0, 0));
        due.is("24: THE LINES tell", 0, x.come(1, 1, 0));
        due.is("24: he is picked still", 2, x.send());
        due.is("24: the third one", 2, x.last(10));
    }

    private static void promise24Wrong() {
        SinglesUp x = came("take 1;", 1);
        int[][] wrong = {{-1, 0, 4, 1, 0}, {4, 0, 4, 1, 0}, {0, -1, 4, 1, 0}, {0, 100, 4, 1, 0}, {0, 0, 1, 1, 0},
            {0, 0, 9, 1, 0}, {0, 0, 4, 0, 0}, {0, 0, 4, 41, 0}, {0, 0, 4, 1, -1}, {0, 0, 4, 1, 6}};
        for (int[] row : wrong) {
            due.is("24: wrong", -1, x.thought(row[0], row[1], row[2], row[3], row[4]));
        }
        due.is("24: all at their most", 8 * 40 - 1, x.thought(0, 99, 8, 40, 0));
        due.is("24: RULE 3 is empty", 2, x.thought(3, 0, 2, 1, 0));
    }

    private static void promise25Price() {
        SinglesUp x = came("take size-1;", 1, 4, 4, 4);
        due.is("25: of none", 0, x.price(0, 4));
        due.is("25: a single rides alone", -1, x.price(1, 4));
        // With it 0, 3, 0, 0; without it 0, 0, 0, 4.
        due.is("25: in three", 3, x.price(1, 3));
        due.is("25: one that is not reached", 0, x.price(4, 4));
        due.is("25: whatever BOUND is told", true, x.set(4, 1));
        due.is("25: in three again", 3, x.price(1, 3));
        due.is("25: of none again", 0, x.price(0, 3));
        Due.tell(x, 1, "take 5;");
        x.set(5, 1);
        due.is("25: by the RULE IN FORCE", 0, x.price(1, 3));
        x.set(5, 0);
        x.set(0, 8);
        due.is("25: SEATS as told: 8, 4 and 1 for 8, 4, 0", -1, x.price(1, 2));
        due.is("25: bound 100", -1000000, x.price(100, 3));
        due.is("25: bound -1", -1000000, x.price(-1, 3));
        due.is("25: n 0", -1000000, x.price(1, 0));
        due.is("25: n 41", -1000000, x.price(1, 41));
        due.is("25: bound 99, n 40", 0, x.price(99, 40));
        due.is("25: n 1", 0, x.price(1, 1));
    }

    private static void promise26Till() {
        SinglesUp x = came("take 9-place;", 3, 2, 2, 1, 5);
        x.comer(0, 1, 1, 0, 1000);
        int[] till = {1, 2, 2, 1, -1};
        for (int place = 0; place < 5; place++) {
            due.is("26: place " + place, till[place], x.till(0, place));
        }
        due.is("26: none there", -1, x.till(0, 5));
        due.is("26: place -1", -1, x.till(0, -1));
        due.is("26: line 6", -1, x.till(6, 0));
        due.is("26: line -1", -1, x.till(-1, 0));
        x.parts(5, 1);
        due.is("26: wholly, not a part of it", 4, x.till(0, 4));
        x.parts(5, 2);
        due.is("26: 3 of it, then 2", 4, x.till(0, 4));
        x = came("take 1;");
        for (int i = 0; i < 40; i++) {
            x.come(3, 3, 0);
        }
        due.is("26: the 40th", 40, x.till(0, 39));
        x.comer(0, 3, 3, 0, 1000);
        due.is("26: nobody comes", 40, x.till(0, 39));
        x = came("take 1;", 4, 3, 3, 3);
        x.come(3, 1, 3);
        // Found out on the second chair, it stands last.
        due.is("26: one that is found out", 5, x.till(0, 4));
        x.seen(0, 1);
        due.is("26: in its turn", 5, x.till(0, 4));
        x = came("take 1 when sort=3;");
        Due.tell(x, 4, "line 1 when sort=3;");
        x.come(1, 1, 0);
        for (int i = 0; i < 40; i++) {
            x.come(4, 4, 3);
        }
        due.is("26: the 40th of LINE 1", 40, x.till(1, 39));
        x.set(0, 8);
        due.is("26: two on a chair", 20, x.till(1, 39));
        due.is("26: never", -1, x.till(0, 0));
        x.set(4, 1);
        due.is("26: never, for nobody passes it", -1, x.till(0, 0));
    }

    private static void promise26TillAway() {
        SinglesUp x = came("take 9 when line=1;");
        Due.tell(x, 4, "line 1 when sort=3;");
        for (int i = 0; i < 40; i++) {
            x.come(1, 1, 0);
        }
        x.come(3, 3, 3);
        x.come(2, 1, 3);
        x.come(4, 4, 3);
        due.is("26: before it", 1, x.till(1, 0));
        due.is("26: it goes away", -1, x.till(1, 1));
        due.is("26: behind it", 2, x.till(1, 2));
    }

    private static void promise27Together() {
        SinglesUp x = came("take 9-place;", 3, 2, 2, 1);
        due.is("27: 2 and 2", 2, x.together(0, 1, 0, 2, 0));
        due.is("27: the other way", 2, x.together(0, 2, 0, 1, 0));
        due.is("27: 3 and 1", 2, x.together(0, 0, 0, 3, 0));
        due.is("27: 1 behind 3 joins it in front", 1, x.together(0, 3, 0, 0, 0));
        due.is("27: 5 never", -1, x.together(0, 0, 0, 1, 0));
        due.is("27: that does not pay", 0, x.together(0, 0, 0, 1, 1));
        x.parts(5, 2);
        due.is("27: 5 in parts, after 2 and 1", 3, x.together(0, 0, 0, 1, 0));
        x.comer(0, 1, 1, 0, 1000);
        due.is("27: nobody comes", 2, x.together(0, 1, 0, 2, 0));
        x = came("take 20 when size>3; take 9-place;", 1, 2, 3, 3);
        Due.tell(x, 4, "line 2 when sort=0;");
        x.come(2, 2, 0);
        due.is("27: over LINES, the second one's place", 1, x.together(0, 1, 2, 0, 0));
        due.is("27: a rule weighs both SIZES, SAID so", 1, x.together(0, 0, 0, 3, 0));
        x = came("take 5 when size<3;", 1, 1, 2, 2);
        due.is("27: so a rule may refuse them", -1, x.together(0, 2, 0, 3, 0));
        x.set(4, 1);
        due.is("27: WAITED and PASSED stay the second one's", -1, x.together(0, 2, 0, 3, 0));
        x.pick(0, 3);
        x.send();
        due.is("27: it was passed", 1, x.together(0, 0, 0, 2, 0));
    }

    private static void promise27ThatCannotBe() {
        SinglesUp x = came("take 1;", 4, 4, 5);
        x.come(2, 1, 0);
        for (int sort = 1; sort <= 3; sort++) {
            x.come(1, 1, sort);
        }
        x.set(0, 8);
        due.is("27: 8 together", 1, x.together(0, 0, 0, 1, 0));
        due.is("27: 9 together", -2, x.together(0, 0, 0, 2, 0));
        due.is("27: the same one", -2, x.together(0, 0, 0, 0, 0));
        due.is("27: one who says less", -2, x.together(0, 0, 0, 3, 0));
        due.is("27: the other way", -2, x.together(0, 3, 0, 0, 0));
        for (int place = 4; place <= 6; place++) {
            due.is("27: another sort " + place, -2, x.together(0, 0, 0, place, 0));
            due.is("27: first of another sort " + place, -2, x.together(0, place, 0, 0, 0));
        }
        due.is("27: none there", -2, x.together(0, 0, 0, 7, 0));
        due.is("27: no first there", -2, x.together(0, 7, 0, 0, 0));
        due.is("27: place -1", -2, x.together(0, -1, 0, 0, 0));
        due.is("27: line 6", -2, x.together(6, 0, 0, 0, 0));
        due.is("27: second line -1", -2, x.together(0, 0, -1, 0, 0));
        due.is("27: what 2", -2, x.together(0, 0, 0, 1, 2));
        due.is("27: what -1", -2, x.together(0, 0, 0, 1, -1));
        due.is("27: they stand as they stood", 4, x.group(0, 1, 1));
    }

    private static void promise27ItPays() {
        SinglesUp x = came("take 9-place;", 3, 2, 2, 1);
        due.is("27: 2 as the later of both", 1, x.together(0, 1, 0, 2, 1));
        due.is("27: 2 is later than 1 and 1", 0, x.together(0, 0, 0, 3, 1));
        due.is("27: 1 is not", 1, x.together(0, 3, 0, 0, 1));
        due.is("27: as late as the second one's", 2, x.together(0, 3, 0, 1, 0));
        due.is("27: pays, though the first one's is 1", 1, x.together(0, 3, 0, 1, 1));
        due.is("27: as late as neither", 3, x.together(0, 1, 0, 3, 0));
        due.is("27: does not pay", 0, x.together(0, 1, 0, 3, 1));
        x = came("take 9-place when size>1;", 1, 2, 1);
        due.is("27: now they go", 1, x.together(0, 0, 0, 1, 0));
        due.is("27: the first would never: no", 0, x.together(0, 0, 0, 1, 1));
        due.is("27: both would never", 1, x.together(0, 0, 0, 2, 0));
        due.is("27: no", 0, x.together(0, 0, 0, 2, 1));
        due.is("27: the second would never: no", 0, x.together(0, 1, 0, 0, 1));
    }

    private static void promise28Needed() {
        SinglesUp x = came("take 9-place;", 3, 3, 2, 1);
        x.comer(0, 4, 4, 0, 1000);
        due.is("28: 3 and 1", 0, x.needed(1));
        due.is("28: 3", 1, x.needed(2));
        due.is("28: 2", 3, x.needed(3));
        due.is("28: nobody", 3, x.needed(4));
        due.is("28: 40", 3, x.needed(40));
        due.is("28: 41", -1, x.needed(41));
        due.is("28: 0", -1, x.needed(0));
        due.is("28: below 0", -1, x.needed(-1));
        x.set(0, 8);
        due.is("28: 3, 3, 2; 1", 7, x.needed(2));
        x = came("take 1 when left>waited*9 and taken=0; take 1 when waited>4 and left>2;", 3, 1);
        x.set(0, 2);
        due.is("28: 1, after it nobody", 1, x.needed(9));
        x.set(0, 4);
        due.is("28: 3, then nobody for long", 1, x.needed(5));
        due.is("28: then 1", 4, x.needed(6));
        due.is("28: then nobody", 4, x.needed(9));
    }

    private static void which(SinglesUp x, int n, int set, int empty, int wait) {
        due.is("30: n " + n + ": the set", set, x.which(n, 0));
        due.is("30: n " + n + ": EMPTY", empty, x.which(n, 1));
        due.is("30: n " + n + ": WAIT", wait, x.which(n, 2));
    }

    private static void promise30Which() {
        // The front of LINE 1 alone may ride, and goes only with its like.
        SinglesUp x = came("take 1 when line=1;");
        x.comer(0, 2, 2, 0, 1000);
        x.comer(1, 2, 2, 0, 1000);
        which(x, 1, 2, 0, 0);
        which(x, 20, 2, 0, 0);
        x.comer(2, 4, 4, 0, 1000);
        // 2 and 2 each time, or a 4 each time: the same, so the least set.
        which(x, 5, 2, 0, 0);
        x.comer(0, 1, 1, 0, 1000);
        x.comer(1, 1, 1, 0, 1000);
        x.comer(2, 2, 2, 0, 1000);
        which(x, 5, 3, 0, 0);
        x.comer(2, 8, 2, 3, 1000);
        x.set(0, 8);
        // By what they say: both sets {2} and {1, 2} fill 8.
        which(x, 1, 2, 0, 0);
        x = came("take 1 when line=1;");
        x.comer(0, 5, 5, 0, 1000);
        x.set(0, 5);
        // 5 goes to LINE 0 by any set.
        which(x, 4, 0, 20, 0);
        Due.tell(x, 4, "line 1 when size=5;");
        due.is("30: though THE LINES tell otherwise", 1, x.come(5, 5, 0));
        which(x, 4, 0, 15, 0);
        due.is("30: n 0", -1, x.which(0, 0));
        due.is("30: n 21", -1, x.which(21, 0));
        due.is("30: what 3", -1, x.which(1, 3));
        due.is("30: what -1", -1, x.which(1, -1));
        due.is("30: THE LINES tell as before", 1, x.come(5, 5, 0));
    }

    private static void promise30WhichTies() {
        // Those of LINE 0 ride one chair later: less WAIT for who goes to LINE 1.
        SinglesUp x = came("take 5 when line=1; take 5 when waited>0;");
        x.comer(0, 3, 3, 0, 1000);
        which(x, 1, 4, 1, 0);
        x.set(0, 3);
        x.comer(1, 1, 1, 0, 1000);
        // {1} leaves 2 empty at first, {3} nothing, {1, 3} nothing, nor more WAIT.
        which(x, 1, 4, 0, 0);
        SinglesUp y = came("take 9 when line=1; take 1;", 2);
        y.set(0, 2);
        y.comer(0, 2, 2, 0, 1000);
        // No seat is EMPTY by any set; but in LINE 1 who comes goes at once.
        which(y, 2, 2, 0, 0);
        y = came("take 1;");
        y.comer(0, 4, 4, 0, 1000);
        y.comer(1, 1, 1, 0, 1000);
        // If all stand in LINE 0, single ones go together before the second 4.
        which(y, 3, 1, 0, 0);
        Due.tell(y, 0, "take 2 when line=1; take 1;");
        which(y, 2, 8, 0, 0);
        due.is("30: by the RULE IN FORCE", true, y.set(5, 3));
        which(y, 2, 0, 8, 0);
    }

    private static void promise30WhichAll() {
        SinglesUp x = came("take 1 when line=1;");
        x.set(0, 8);
        // The draws are 563, 577, 494, 947; 749, 198, 764, 15: first 1, 3 and 4 come, then 2 and 4.
        x.comer(0, 1, 1, 0, 564);
        x.comer(1, 2, 2, 0, 577);
        x.comer(2, 3, 3, 0, 495);
        x.comer(3, 4, 4, 0, 948);
        due.is("30: all sizes", 15, x.which(2, 0));
        due.is("30: without 2", 13, x.which(1, 0));
    }
}

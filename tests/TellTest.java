/** Promises 1 to 6, 32 and 33: what is new, what is told, and the image. */
public final class TellTest {
    private static final Due due = new Due();

    public static void main(String[] args) {
        promise01New();
        promise02State();
        promise03Set();
        promise03SetAndPicked();
        promise04Seen();
        promise05Parts();
        promise06Comer();
        promise06ComerDraws();
        promise32ImageBringsBackWhatIs();
        promise32ImageBringsBackWhatWasTold();
        promise32ImageOfThePast();
        promise32ImageLeavesTapeAndFault();
        promise33Told();
        due.end("TellTest");
    }

    private static void promise01New() {
        SinglesUp x = new SinglesUp();
        for (int line = 0; line < 6; line++) {
            due.is("1: line " + line, 0, x.line(line, 0));
            due.is("1: people of " + line, 0, x.line(line, 1));
            due.is("1: group of " + line, -1, x.group(line, 0, 0));
            due.is("1: look at " + line, 0, x.look(line));
        }
        int[] told = {4, 6, 40, 0, 0, 0, 0, 0, 0};
        for (int what = 0; what < told.length; what++) {
            due.is("1: told " + what, told[what], x.told(what));
        }
        for (int what = 0; what <= 6; what++) {
            due.is("1: count " + what, 0, x.count(what));
        }
        for (int size = 1; size <= 8; size++) {
            due.is("1: gone " + size, 0, x.count(10 + size));
            due.is("1: wait " + size, 0, x.count(20 + size));
            due.is("1: longest " + size, 0, x.count(30 + size));
            due.is("1: mean " + size, -1, x.count(40 + size));
        }
        due.is("1: last", -1, x.last(0));
        due.is("1: past", -1, x.past(0, 0));
        due.is("1: fault", 0, x.fault(0));
        due.is("1: fault's place", -1, x.fault(1));
        due.is("1: no image", false, x.image(false));
        due.is("1: empty heap", 0, x.fewest(0));
        due.is("1: best", 0, x.best(0));
        due.is("1: NONE", -1, SinglesUp.NONE);
        due.is("1: nobody comes", 0, x.run(3));
        due.is("1: no draw without COMERS and FALLS", 0, x.told(8));
        x.come(1, 1, 0);
        due.is("1: the TEXTS are empty", 0, x.chair());
    }

    private static void promise02State() {
        SinglesUp x = new SinglesUp();
        due.is("2: what it was", 0, x.state(5));
        due.is("2: what it was then", 5, x.state(Integer.MIN_VALUE));
        due.is("2: the least", Integer.MIN_VALUE, x.state(0));
        x.set(3, 1);
        x.chair();
        due.is("2: a draw", 1013904223, x.told(8));
        x.chair();
        due.is("2: another draw", 1196435762, x.told(8));
        x.chair();
        due.is("2: and it wraps", -775096599, x.state(-775096599));
    }

    private static void promise03Set() {
        SinglesUp x = new SinglesUp();
        int[] least = {2, 1, 0, 0, 0, 0};
        int[] most = {8, 99, 999, 1000, 99, 3};
        for (int what = 0; what <= 5; what++) {
            due.is("3: the least of " + what, true, x.set(what, least[what]));
            due.is("3: is told", least[what], x.told(what));
            due.is("3: the most of " + what, true, x.set(what, most[what]));
            due.is("3: is told", most[what], x.told(what));
            due.is("3: too little of " + what, false, x.set(what, least[what] - 1));
            due.is("3: too much of " + what, false, x.set(what, most[what] + 1));
            due.is("3: stays", most[what], x.told(what));
        }
        due.is("3: another what", false, x.set(6, 1));
        due.is("3: a what below 0", false, x.set(-1, 1));
        due.is("3: a what far off", false, x.set(Integer.MAX_VALUE, 4));
    }

    private static void promise03SetAndPicked() {
        SinglesUp x = new SinglesUp();
        x.come(2, 2, 0);
        x.pick(0, 0);
        x.set(1, 7);
        x.set(2, 7);
        x.set(3, 0);
        x.set(4, 7);
        x.set(5, 1);
        due.is("3: other things leave who is picked", 1, x.told(6));
        x.set(0, 9);
        due.is("3: SEATS that can't be leave who is picked", 1, x.told(6));
        x.set(0, 4);
        due.is("3: SEATS leave nobody picked", 0, x.told(6));
        x.set(0, 2);
        due.is("3: picked again", 0, x.pick(0, 0));
        x.set(0, 8);
        x.come(6, 6, 0);
        due.is("3: all SEATS are free again", 0, x.pick(0, 1));
        due.is("3: and he too", 0, x.pick(0, 0));
    }

    private static void promise04Seen() {
        SinglesUp x = new SinglesUp();
        for (int i = 0; i < 30; i++) {
            x.come(1, 1, 0);
        }
        due.is("4: 9 are seen at first", 0, x.pick(0, 8));
        due.is("4: not 10", 2, x.pick(0, 9));
        due.is("4: 24", true, x.seen(0, 24));
        due.is("4: the 24th", 0, x.pick(0, 23));
        due.is("4: not the 25th", 2, x.pick(0, 24));
        due.is("4: 25", false, x.seen(0, 25));
        due.is("4: 0", false, x.seen(0, 0));
        due.is("4: below 0", false, x.seen(0, -1));
        due.is("4: no such line", false, x.seen(6, 3));
        due.is("4: no such line below", false, x.seen(-1, 3));
        due.is("4: the last line", true, x.seen(5, 3));
        due.is("4: still 24", 2, x.pick(0, 24));
        due.is("4: 1", true, x.seen(0, 1));
        due.is("4: only the front", 2, x.pick(0, 1));
        Due.tell(x, 0, "take 1;");
        due.is("4: only the front sits", 1, x.chair());
        due.is("4: 2 in another line", true, x.seen(1, 2));
        due.is("4: that is not this one's", 1, x.chair());
    }

    private static SinglesUp withGroup(int size, int seats) {
        SinglesUp x = new SinglesUp();
        x.set(0, seats);
        Due.tell(x, 0, "take 1;");
        x.come(size, size, 0);
        return x;
    }

    private static void promise05Parts() {
        SinglesUp x = new SinglesUp();
        due.is("5: the least", true, x.parts(2, 1));
        due.is("5: a part as great as all", false, x.parts(2, 2));
        due.is("5: the greatest", true, x.parts(8, 7));
        due.is("5: 8 of 8", false, x.parts(8, 8));
        due.is("5: size 1", false, x.parts(1, 0));
        due.is("5: size 9", false, x.parts(9, 1));
        due.is("5: below 0", false, x.parts(5, -1));
        due.is("5: none", true, x.parts(8, 0));
        int[][] due5 = {{5, 1, 4, 4}, {5, 4, 4, 4}, {5, 2, 4, 3}, {5, 3, 4, 3}, {6, 1, 4, 1}, {6, 5, 4, 1},
            {8, 1, 7, 7}, {8, 3, 4, 3}, {8, 4, 4, 4}, {3, 1, 2, 2}, {5, 0, 4, 0}, {6, 3, 2, 0}, {4, 1, 4, 4}};
        for (int[] row : due5) {
            x = withGroup(row[0], row[2]);
            x.parts(row[0], row[1]);
            due.is("5: of " + row[0] + " in " + row[1] + " on " + row[2], row[3], x.chair());
            due.is("5: and the rest", row[0] - row[3], x.line(0, 1));
        }
        x = withGroup(5, 4);
        x.parts(5, 2);
        x.parts(5, 5);
        x.parts(6, 0);
        due.is("5: what can't be changes nothing", 3, x.chair());
        x = withGroup(5, 4);
        x.parts(5, 2);
        x.parts(5, 0);
        due.is("5: not any more", 0, x.chair());
    }

    private static void promise06Comer() {
        SinglesUp x = new SinglesUp();
        due.is("6: the least", true, x.comer(0, 1, 1, 0, 0));
        due.is("6: the most", true, x.comer(7, 8, 8, 3, 1000));
        due.is("6: says less", true, x.comer(7, 8, 1, 3, 1000));
        due.is("6: k 8", false, x.comer(8, 1, 1, 0, 5));
        due.is("6: k below 0", false, x.comer(-1, 1, 1, 0, 5));
        due.is("6: size 0", false, x.comer(0, 0, 0, 0, 5));
        due.is("6: size 9", false, x.comer(0, 9, 9, 0, 5));
        due.is("6: says 0", false, x.comer(0, 3, 0, 0, 5));
        due.is("6: says more", false, x.comer(0, 3, 4, 0, 5));
        due.is("6: sort below 0", false, x.comer(0, 3, 3, -1, 5));
        due.is("6: sort 4", false, x.comer(0, 3, 3, 4, 5));
        due.is("6: chance below 0", false, x.comer(0, 3, 3, 0, -1));
        due.is("6: chance 1001", false, x.comer(0, 3, 3, 0, 1001));
        x.run(1);
        due.is("6: one came", 1, x.line(0, 0));
        due.is("6: as told", 8, x.group(0, 0, 1));
        due.is("6: says as told", 1, x.group(0, 0, 2));
        due.is("6: of the sort told", 3, x.group(0, 0, 3));
        due.is("6: one draw", 1013904223, x.told(8));
        x.comer(7, 8, 1, 3, 0);
        x.run(1);
        due.is("6: chance 0 is none", 1, x.line(0, 0));
        due.is("6: and no draw", 1013904223, x.told(8));
        x.comer(7, 8, 1, 3, 1);
        x.run(1);
        due.is("6: chance 1 is one", 1196435762, x.told(8));
        due.is("6: but seldom", 1, x.line(0, 0));
    }

    private static void promise06ComerDraws() {
        SinglesUp x = new SinglesUp();
        // The draws from STATE 0: 563, 577, 494, 947, 749.
        x.comer(1, 2, 2, 0, 563);
        x.comer(4, 3, 3, 0, 578);
        x.set(3, 494);
        x.run(1);
        due.is("6: 563 is not below 563, 577 is below 578", 1, x.line(0, 0));
        due.is("6: so 4 came", 3, x.group(0, 0, 1));
        due.is("6: 494 is not below 494", 0, x.count(4));
        due.is("6: three draws", -775096599, x.told(8));
        x.state(0);
        x.comer(1, 2, 2, 0, 564);
        x.comer(4, 3, 3, 0, 577);
        x.set(3, 495);
        x.run(1);
        due.is("6: 563 is below 564, 577 not below 577", 2, x.line(0, 0));
        due.is("6: so 1 came", 2, x.group(0, 1, 1));
        due.is("6: 494 is below 495", 1, x.count(4));
        x.comer(1, 2, 2, 0, 1000);
        x.comer(4, 3, 3, 0, 1000);
        x.run(1);
        due.is("6: the first one first", 2, x.group(0, 2, 1));
        due.is("6: then the other", 3, x.group(0, 3, 1));
        due.is("6: a comer does not come with a chair alone", 4, x.chair() + x.line(0, 0));
    }

    private static void promise32ImageBringsBackWhatIs() {
        SinglesUp x = new SinglesUp();
        due.is("32: none yet", false, x.image(false));
        Due.tell(x, 0, "take 9-place;");
        x.set(3, 1000);
        x.come(2, 2, 0);
        x.come(3, 1, 3);
        x.come(1, 1, 0);
        x.chair();
        x.come(4, 4, 0);
        due.is("32: taken", true, x.image(true));
        int[] before = all(x);
        for (int i = 0; i < 2; i++) {
            x.come(2, 2, 0);
            x.chair();
            x.chair();
            x.state(99);
            x.pick(0, 0);
            due.is("32: gone back", true, x.image(false));
            due.is("32: nobody is picked", 0, x.told(6));
            int[] after = all(x);
            for (int k = 0; k < before.length; k++) {
                due.is("32: fact " + k, before[k], after[k]);
            }
        }
        x.pick(0, 1);
        x.image(true);
        due.is("32: the taking leaves who is picked", 1, x.told(6));
        x.image(false);
        due.is("32: the going back does not", 0, x.told(6));
        due.is("32: picked anew", 0, x.pick(0, 1));
        x.chair();
        x.image(true);
        int went = x.count(0);
        x.chair();
        x.image(false);
        due.is("32: the later image", went, x.count(0));
    }

    /** What is, as a row. */
    private static int[] all(SinglesUp x) {
        int[] row = new int[120];
        int k = 0;
        for (int what = 0; what <= 48; what++) {
            row[k++] = x.count(what);
        }
        for (int place = 0; place < 4; place++) {
            for (int what = 0; what <= 6; what++) {
                row[k++] = x.group(0, place, what);
            }
        }
        for (int i = 0; i < 3; i++) {
            row[k++] = x.last(i) + 3 * x.last(10 + i) + 5 * x.last(20 + i);
            row[k++] = x.past(i, 0);
            row[k++] = x.past(i, 1);
            row[k++] = x.past(i, 2);
        }
        row[k++] = x.told(7);
        row[k++] = x.told(8);
        row[k++] = x.line(0, 0);
        row[k] = x.line(0, 1);
        return row;
    }

    private static void promise32ImageBringsBackWhatWasTold() {
        SinglesUp x = new SinglesUp();
        int[] told = {5, 7, 33, 9, 3, 2};
        for (int what = 0; what <= 5; what++) {
            x.set(what, told[what]);
        }
        x.seen(0, 1);
        x.parts(6, 2);
        x.comer(2, 3, 3, 0, 1000);
        x.heap(3, 2);
        Due.tell(x, 2, "take 3;");
        Due.tell(x, 4, "line 1 when size=6;");
        x.image(true);
        for (int what = 0; what <= 5; what++) {
            x.set(what, 2);
        }
        x.seen(0, 9);
        x.parts(6, 0);
        x.comer(2, 1, 1, 0, 0);
        x.heap(3, 0);
        Due.tell(x, 2, "");
        Due.tell(x, 4, "line 2 when size>0;");
        x.image(false);
        for (int what = 0; what <= 5; what++) {
            due.is("32: told " + what, told[what], x.told(what));
        }
        due.is("32: THE LINES", 1, x.come(6, 6, 0));
        due.is("32: the RULE", 3, x.group(1, 0, 6));
        due.is("32: the heap", 2, x.fewest(0));
        due.is("32: the parts", 4, x.chair());
        due.is("32: the comer", 5, x.run(1));
        x.come(2, 2, 0);
        x.come(2, 2, 0);
        due.is("32: what is seen", 2, x.pick(0, 1));
    }

    private static void promise32ImageOfThePast() {
        SinglesUp x = new SinglesUp();
        x.run(60);
        x.image(true);
        x.set(1, 50);
        x.run(59);
        x.image(false);
        for (int i = 0; i < 60; i++) {
            due.is("32: past " + i, 6 * (60 - i), x.past(i, 2));
        }
    }

    private static void promise32ImageLeavesTapeAndFault() {
        SinglesUp x = new SinglesUp();
        Due.tell(x, 0, "take 1/0;");
        Due.feed(x, "take 7;");
        x.image(true);
        Due.feed(x, "take 5;");
        x.image(false);
        due.is("32: the FAULT stays", 2, x.fault(0));
        due.is("32: the TAPE stays", 1, x.text(0));
        x.come(1, 1, 0);
        due.is("32: the later TAPE", 5, x.group(0, 0, 6));
        Due.tell(x, 0, "!");
        x.image(false);
        due.is("32: the later FAULT stays", 1, x.fault(0));
    }

    private static void promise33Told() {
        SinglesUp x = new SinglesUp();
        int[] told = {5, 7, 33, 9, 3, 2};
        for (int what = 0; what <= 5; what++) {
            x.set(what, told[what]);
        }
        for (int what = 0; what <= 5; what++) {
            due.is("33: told " + what, told[what], x.told(what));
        }
        x.come(2, 2, 0);
        x.come(2, 2, 0);
        x.come(9, 9, 0);
        due.is("33: came", 2, x.told(7));
        x.pick(0, 0);
        x.pick(0, 0);
        due.is("33: picked", 1, x.told(6));
        x.pick(0, 1);
        due.is("33: both", 2, x.told(6));
        x.send();
        due.is("33: sent", 0, x.told(6));
        x.state(77);
        due.is("33: STATE", 77, x.told(8));
        due.is("33: another what", -1, x.told(9));
        due.is("33: below 0", -1, x.told(-1));
        Due.tell(x, 4, "line 1 when size=1;");
        for (int i = 0; i < 41; i++) {
            x.come(1, 1, 0);
        }
        due.is("33: one that went away came, too", 43, x.told(7));
    }
}

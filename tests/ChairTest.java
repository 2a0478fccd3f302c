/** Promises 16 to 19 and 29: chairs that are filled by a RULE and go, and what is counted of them. */
public final class ChairTest {
    private static final Due due = new Due();

    public static void main(String[] args) {
        promise16GreatestWorth();
        promise16SeenAndLines();
        promise16Children();
        promise16Dear();
        promise16Bound();
        promise16FoundOut();
        promise16FoundOutBehind();
        promise16AllFoundOut();
        promise16FoundOutAndAway();
        promise16Parts();
        promise16PartsThatCannot();
        promise16WaitedAndPassed();
        promise17Run();
        promise18Last();
        promise19Count();
        promise29Past();
        due.end("ChairTest");
    }

    private static SinglesUp ruled(String rule) {
        SinglesUp x = new SinglesUp();
        due.is("16: " + rule, true, Due.tell(x, 0, rule) > 0);
        return x;
    }

    private static void came(SinglesUp x, int... sizes) {
        for (int size : sizes) {
            x.come(size, size, 0);
        }
    }

    private static void sat(String call, SinglesUp x, int... numbers) {
        due.is(call + ": how many", numbers.length, x.last(0));
        for (int i = 0; i < numbers.length; i++) {
            due.is(call + ": the " + i + "th", numbers[i], x.last(10 + i));
        }
    }

    private static void promise16GreatestWorth() {
        SinglesUp x = ruled("take size;");
        came(x, 1, 2, 3, 1, 1);
        due.is("16: 3 and 1", 4, x.chair());
        sat("16: the greatest first, of several the first", x, 2, 0);
        due.is("16: 2, 1, 1", 4, x.chair());
        sat("16: then", x, 1, 3, 4);
        due.is("16: nobody", 0, x.chair());
        sat("16: nobody", x);
        x = ruled("take 2-size;");
        came(x, 2, 3, 1);
        due.is("16: WORTH 0 and below is not above 0", 1, x.chair());
        x = ruled("take size when left=size; take 1 when taken=0; take 1 when left<3;");
        came(x, 3, 2, 2, 1);
        due.is("16: WORTH as the chair fills", 4, x.chair());
        sat("16: 3, then that of 1", x, 0, 3);
        x.pick(0, 0);
        due.is("16: nobody is picked any more", 4, x.chair());
        due.is("16: told so", 0, x.told(6));
        x = ruled("take 9-behind;");
        came(x, 4, 4, 4);
        x.chair();
        sat("16: behind is less for those behind", x, 2);
        x = ruled("take 5-place when taken=0; take 1+place*place;");
        came(x, 1, 1, 1, 1);
        x.chair();
        sat("16: places stay till the chair goes", x, 0, 3, 2, 1);
    }

    private static void promise16SeenAndLines() {
        SinglesUp x = ruled("take 1+line;");
        Due.tell(x, 4, "line 2 when sort=3;");
        came(x, 2, 2);
        x.come(2, 2, 3);
        x.come(2, 2, 3);
        x.seen(2, 1);
        x.chair();
        sat("16: LINE 2 first, as far as it is seen", x, 2, 0);
        Due.tell(x, 0, "take 1;");
        x.chair();
        sat("16: by LINES", x, 1, 3);
        came(x, 4, 1, 1, 1);
        x.seen(0, 3);
        Due.tell(x, 0, "take size when size<4;");
        due.is("16: sight is from the front as the chair came", 2, x.chair());
        due.is("16: the next chair sees one", 1, x.chair());
    }

    private static void promise16Children() {
        SinglesUp x = ruled("take 10 when sort=1; take 1;");
        x.come(1, 1, 1);
        x.come(1, 1, 1);
        due.is("16: children alone stay", 0, x.chair());
        x.come(1, 1, 3);
        due.is("16: with one of another sort", 3, x.chair());
        sat("16: that one first", x, 2, 0, 1);
        x.come(1, 1, 1);
        x.come(1, 1, 2);
        due.is("16: not with the dear", 1, x.chair());
        sat("16: the dear", x, 4);
        due.is("16: nor without", 0, x.chair());
        x.come(4, 4, 0);
        due.is("16: no seat left for them", 4, x.chair());
        due.is("16: children stand", 1, x.line(0, 0));
    }

    private static void promise16Dear() {
        SinglesUp x = ruled("take 10-place;");
        x.come(1, 1, 0);
        x.come(1, 1, 2);
        x.come(1, 1, 0);
        due.is("16: no dear one with others", 2, x.chair());
        due.is("16: the dear one alone", 1, x.chair());
        sat("16: the dear one", x, 1);
        due.is("16: 3 seats left", 3, x.last(1));
        x.come(1, 1, 2);
        x.come(1, 1, 0);
        x.come(1, 1, 2);
        due.is("16: nobody with the dear", 1, x.chair());
        sat("16: nobody", x, 3);
    }

    private static void promise16Bound() {
        SinglesUp x = ruled("take size-1;");
        came(x, 1, 1, 2, 2, 2, 2, 2, 2);
        x.chair();
        x.chair();
        due.is("16: passed twice", 2, x.group(0, 0, 5));
        x.set(4, 3);
        x.chair();
        sat("16: below BOUND", x, 6, 7);
        came(x, 2, 2, 2, 2);
        x.chair();
        sat("16: at BOUND, though WORTH is 0, the first of several, then by WORTH", x, 0, 1, 8);
        x = ruled("take size-1;");
        came(x, 1, 2, 2);
        x.chair();
        came(x, 1, 2, 2);
        x.chair();
        came(x, 3);
        x.set(4, 1);
        x.chair();
        sat("16: the greatest PASSED first", x, 0, 3);
        came(x, 1, 2, 2);
        x.set(4, 0);
        x.chair();
        came(x, 2, 2);
        x.chair();
        due.is("16: without BOUND nobody goes for being PASSED", 7, x.group(0, 0, 0));
        x.seen(0, 1);
        x.set(4, 99);
        due.is("16: BOUND 99 is far", 0, x.chair());
        x.set(4, 1);
        due.is("16: BOUND 1 is reached", 1, x.chair());
    }

    private static void promise16FoundOut() {
        SinglesUp x = ruled("take 20 when size=3; take 12-place when line=1; take 5;");
        Due.tell(x, 4, "line 1 when sort=3;");
        x.come(3, 3, 0);
        x.come(3, 1, 3);
        x.come(2, 1, 3);
        x.come(1, 1, 0);
        due.is("16: two are found out, two sit", 4, x.chair());
        sat("16: 0 and 3", x, 0, 3);
        due.is("16: two are FOUND", 2, x.count(5));
        due.is("16: LINE 1 is empty", 0, x.line(1, 0));
        due.is("16: they stand in LINE 0", 2, x.line(0, 0));
        due.is("16: in their order", 1, x.group(0, 0, 0));
        due.is("16: in their order", 2, x.group(0, 1, 0));
        due.is("16: and say their SIZE", 3, x.group(0, 0, 2));
        due.is("16: of the same sort", 3, x.group(0, 0, 3));
        due.is("16: WAITED is not more", 0, x.group(0, 0, 4));
        x = ruled("take 10-place;");
        x.come(3, 2, 3);
        due.is("16: who has place is not found out", 3, x.chair());
        due.is("16: not FOUND", 0, x.count(5));
        x = ruled("take 10 when sort=0; take 5 when sort=3; take 1;");
        x.come(1, 1, 2);
        x.come(3, 1, 3);
        came(x, 3, 4);
        x.chair();
        due.is("16: the one found out", 1, x.count(5));
        due.is("16: does not stand before the others", 0, x.group(0, 0, 0));
        due.is("16: but behind LINE 0", 1, x.group(0, 2, 0));
        due.is("16: and has not PASSED or waited", 0, x.group(0, 2, 4) + x.group(0, 2, 5));
        due.is("16: the others have", 1, x.group(0, 0, 5));
        due.is("16: but not by the one found out", 0, x.group(0, 1, 5));
        x = ruled("take 9 when sort=3; take 1;");
        x.come(5, 4, 3);
        came(x, 2);
        due.is("16: found out on an empty chair", 2, x.chair());
        due.is("16: says 5 now", 5, x.group(0, 0, 2));
        due.is("16: no more seats for it", 0, x.chair());
        due.is("16: found out once", 1, x.count(5));
        x = ruled("take 1+waited when sort=3; take 9;");
        x.come(5, 4, 3);
        x.seen(0, 1);
        x.set(4, 1);
        came(x, 1, 1);
        x.pick(0, 0);
        x.seen(0, 3);
        x.pick(0, 1);
        x.send();
        due.is("16: PASSED, waited once", 11, 10 * x.group(0, 0, 4) + x.group(0, 0, 5));
        x.chair();
        due.is("16: found out by BOUND, PASSED and WAITED stay", 11, 10 * x.group(0, 0, 4) + x.group(0, 0, 5));
        due.is("16: FOUND by BOUND", 1, x.count(5));
    }

    private static void promise16FoundOutBehind() {
        SinglesUp x = ruled("take 9 when sort=3;");
        came(x, 3);
        x.come(5, 4, 3);
        due.is("16: nobody sits", 0, x.chair());
        due.is("16: one is found out", 1, x.count(5));
        due.is("16: that passes nobody", 0, x.group(0, 0, 5));
        due.is("16: who waits", 1, x.group(0, 0, 4));
        due.is("16: it stood last and stands last", 1, x.group(0, 1, 0));
        due.is("16: and did not wait", 0, x.group(0, 1, 4));
    }

    private static void promise16AllFoundOut() {
        SinglesUp x = ruled("take 99-place when size=7;");
        Due.tell(x, 4, "line 1 when first=24;");
        x.set(0, 7);
        for (int i = 0; i < 48; i++) {
            x.come(8, 7, 0);
        }
        x.seen(0, 24);
        x.seen(1, 24);
        due.is("16: nobody sits", 0, x.chair());
        due.is("16: all are FOUND", 48, x.count(5));
        due.is("16: 40 have place behind LINE 0", 40, x.line(0, 0));
        due.is("16: the others are AWAY", 8, x.count(6));
        due.is("16: LINE 1 is empty", 0, x.line(1, 0));
        for (int place = 0; place < 40; place++) {
            due.is("16: as they were found out, " + place, place / 2 + place % 2 * 24, x.group(0, place, 0));
            due.is("16: says 8, " + place, 8, x.group(0, place, 2));
        }
    }

    private static void promise16FoundOutAndAway() {
        SinglesUp x = ruled("take 9-place when line=1; take 1;");
        Due.tell(x, 4, "line 1 when sort=3;");
        for (int i = 0; i < 40; i++) {
            x.come(1, 1, 0);
        }
        x.set(0, 2);
        x.come(1, 1, 3);
        x.come(2, 1, 3);
        x.come(3, 1, 3);
        due.is("16: 1, then two found out, then a single", 2, x.chair());
        due.is("16: both FOUND", 2, x.count(5));
        due.is("16: a single left LINE 0, one came behind it", 40, x.line(0, 0));
        due.is("16: it is the first one found out", 41, x.group(0, 39, 0));
        due.is("16: the other one is AWAY", 1, x.count(6));
        due.is("16: and in no line", 0, x.line(1, 0));
        x.come(2, 1, 3);
        x.seen(0, 1);
        Due.tell(x, 0, "take 9 when line=0; take 8;");
        due.is("16: a single, then one found out", 1, x.chair());
        due.is("16: it has its place, for the single left LINE 0", 40, x.line(0, 0));
        due.is("16: nobody more is AWAY", 1, x.count(6));
        Due.tell(x, 0, "take 8 when sort=3;");
        x.come(1, 1, 3);
        x.come(2, 1, 3);
        due.is("16: LINE 0 stays full", 1, x.chair());
        due.is("16: AWAY again", 2, x.count(6));
        due.is("16: FOUND is more, too", 4, x.count(5));
    }

    private static void promise16Parts() {
        SinglesUp x = ruled("take 10-place;");
        came(x, 2, 6, 5, 3, 1);
        x.parts(6, 3);
        x.parts(5, 2);
        x.parts(3, 1);
        x.seen(0, 4);
        due.is("16: 2, then 2 of the 5", 4, x.chair());
        sat("16: the part last", x, 0, 2);
        due.is("16: what sat of it", 2, x.last(21));
        x.seen(0, 3);
        due.is("16: the rest", 3, x.group(0, 1, 1));
        due.is("16: says so", 3, x.group(0, 1, 2));
        due.is("16: it was not passed by its part", 0, x.group(0, 1, 5));
        due.is("16: but those before it were", 1, x.group(0, 0, 5));
        due.is("16: those behind were not", 0, x.group(0, 2, 5));
        due.is("16: it waited", 1, x.group(0, 1, 4));
        due.is("16: GONE of 2", 2, x.count(12));
        due.is("16: GONE of 5", 0, x.count(15));
        x.set(0, 2);
        due.is("16: the first is 6 in 3s; then the rest of 5: the greater part", 2, x.chair());
        due.is("16: WAIT of what sat", 1, x.count(22));
        due.is("16: the rest is 1", 1, x.group(0, 1, 1));
        due.is("16: with its number", 2, x.group(0, 1, 0));
        x.set(0, 4);
        due.is("16: now those that are whole, 1 and 3", 4, x.chair());
        x.set(0, 3);
        due.is("16: 1, but no part of 6 is below 3", 1, x.chair());
        due.is("16: half of 6", 3, x.chair());
        due.is("16: the other half", 3, x.chair());
        due.is("16: nobody stands", 0, x.line(0, 0));
    }

    private static void promise16PartsThatCannot() {
        for (int sort = 1; sort <= 3; sort++) {
            SinglesUp x = ruled("take 10;");
            x.parts(5, 2);
            came(x, 1);
            x.come(5, 5, sort);
            due.is("16: sort " + sort + " is not parted", 1, x.chair());
        }
        SinglesUp x = ruled("take 10;");
        x.parts(5, 2);
        x.come(5, 3, 0);
        came(x, 2);
        x.set(0, 2);
        due.is("16: nor one that does not say its SIZE", 2, x.chair());
        x.set(0, 4);
        x.chair();
        due.is("16: FOUND", 1, x.count(5));
        due.is("16: nor who was found out on this chair", 5, x.line(0, 1));
        due.is("16: on the next it is", 3, x.chair());
        x = ruled("take 10 when size<5;");
        x.parts(5, 2);
        came(x, 5);
        due.is("16: nor without WORTH", 0, x.chair());
        Due.tell(x, 0, "take 10 when taken=1 and left=3; take 1 when size=1;");
        came(x, 1);
        due.is("16: WORTH as the chair is then", 4, x.chair());
        x = ruled("take 10;");
        x.parts(5, 2);
        x.come(1, 1, 2);
        came(x, 5);
        due.is("16: nor beside a dear one", 1, x.chair());
        x = ruled("take 10;");
        x.parts(3, 1);
        came(x, 3, 3);
        x.set(0, 2);
        x.seen(0, 1);
        due.is("16: one is parted, the greater part", 2, x.chair());
        x.set(0, 8);
        x.seen(0, 9);
        due.is("16: not parted when there is place", 4, x.chair());
        came(x, 4, 4, 5);
        x.parts(5, 1);
        due.is("16: nobody parted without a seat", 8, x.chair());
        x.come(5, 5, 0);
        x.seen(0, 1);
        x.set(0, 4);
        due.is("16: out of sight", 4, x.chair());
        x.seen(0, 2);
        due.is("16: the rest of one, and 1 of the other", 2, x.chair());
        sat("16: the rest first", x, 4, 5);
        x = ruled("take 1 when place=1 and size=5;");
        x.parts(6, 3);
        x.parts(5, 2);
        came(x, 6, 5);
        due.is("16: the second one by its WORTH", 3, x.chair());
        x = ruled("take 10;");
        x.parts(8, 1);
        came(x, 8, 8);
        due.is("16: only one is parted", 1, x.chair());
        due.is("16: the first one", 7, x.group(0, 0, 1));
        due.is("16: not the other one", 8, x.group(0, 1, 1));
    }

    private static void promise16WaitedAndPassed() {
        SinglesUp x = ruled("take size when size>1;");
        Due.tell(x, 4, "line 1 when sort=3;");
        x.come(1, 1, 0);
        x.come(2, 2, 3);
        x.come(1, 1, 0);
        due.is("16: 2 of LINE 1", 2, x.chair());
        due.is("16: nobody of LINE 0 was passed", 0, x.group(0, 0, 5));
        due.is("16: but waited", 1, x.group(0, 0, 4));
        x.come(2, 2, 0);
        x.come(1, 1, 0);
        x.come(2, 2, 0);
        due.is("16: both 2s", 4, x.chair());
        int[] waited = {2, 2, 1};
        for (int place = 0; place < 3; place++) {
            due.is("16: passed once, " + place, 1, x.group(0, place, 5));
            due.is("16: waited, " + place, waited[place], x.group(0, place, 4));
        }
        x.chair();
        due.is("16: an empty chair passes nobody", 1, x.group(0, 0, 5));
        due.is("16: but they wait", 3, x.group(0, 0, 4));
    }

    private static void promise17Run() {
        SinglesUp x = ruled("take 1;");
        due.is("17: 0", -1, x.run(0));
        due.is("17: 61", -1, x.run(61));
        due.is("17: below 0", -1, x.run(-5));
        due.is("17: none came", 0, x.count(0));
        due.is("17: 60", 0, x.run(60));
        due.is("17: 60 chairs", 60, x.count(0));
        x.comer(3, 3, 3, 0, 1000);
        due.is("17: one comes with each", 6, x.run(2));
        due.is("17: before the chair does", 0, x.line(0, 0));
        x.come(1, 1, 0);
        x.pick(0, 0);
        due.is("17: what can't be leaves who is picked", -1, x.run(0));
        due.is("17: still", 1, x.told(6));
        due.is("17: 1 and 3", 4, x.run(1));
        due.is("17: nobody is picked", 0, x.told(6));
        x.comer(0, 2, 2, 0, 1000);
        due.is("17: COMER 0 first: 2, then the 3 of before and 3 wait", 2, x.run(1));
        due.is("17: 3 is left", 1, x.line(0, 0));
        due.is("17: 3; 2 and 2; 3", 3 + 4 + 3, x.run(3));
        due.is("17: who stand", 3 + 5 * 4 - 2 - 10 - 3, x.line(0, 1));
    }

    private static void promise18Last() {
        SinglesUp x = ruled("take 9-size;");
        for (int what = -1; what < 40; what++) {
            due.is("18: no chair, " + what, -1, x.last(what));
        }
        x.set(0, 8);
        came(x, 1, 1, 1, 1, 1, 1, 1, 1, 1);
        x.chair();
        due.is("18: eight groups", 8, x.last(0));
        due.is("18: no seats left", 0, x.last(1));
        for (int i = 0; i < 8; i++) {
            due.is("18: number " + i, i, x.last(10 + i));
            due.is("18: sat " + i, 1, x.last(20 + i));
        }
        int[] none = {-1, 2, 9, 18, 19, 28, 29, 30, Integer.MIN_VALUE, Integer.MAX_VALUE};
        for (int what : none) {
            due.is("18: no " + what, -1, x.last(what));
        }
        came(x, 3);
        x.chair();
        due.is("18: two groups", 2, x.last(0));
        due.is("18: 4 left", 4, x.last(1));
        due.is("18: the less the sooner", 8, x.last(10));
        due.is("18: then 3", 9, x.last(11));
        due.is("18: of which 3 sat", 3, x.last(21));
        due.is("18: no third", -1, x.last(12));
        due.is("18: no third", -1, x.last(22));
        x.chair();
        due.is("18: nobody", 0, x.last(0));
        due.is("18: no first", -1, x.last(10));
        due.is("18: all left", 8, x.last(1));
    }

    private static void promise19Count() {
        SinglesUp x = ruled("take size;");
        x.set(1, 9);
        x.set(2, 100);
        came(x, 3, 2, 2, 1);
        x.chair();
        x.set(3, 1000);
        x.chair();
        x.set(3, 0);
        x.chair();
        int[] counts = {3, 0 + 0 + 4, 8, 27 + 100, 1, 0, 0};
        for (int what = 0; what <= 6; what++) {
            due.is("19: count " + what, counts[what], x.count(what));
        }
        int[] gone = {0, 1, 2, 1, 0, 0, 0, 0, 0};
        int[] wait = {0, 0, 2, 0, 0, 0, 0, 0, 0};
        int[] longest = {0, 0, 1, 0, 0, 0, 0, 0, 0};
        int[] mean = {0, 0, 100, 0, -1, -1, -1, -1, -1};
        for (int size = 1; size <= 8; size++) {
            due.is("19: GONE " + size, gone[size], x.count(10 + size));
            due.is("19: WAIT " + size, wait[size], x.count(20 + size));
            due.is("19: LONGEST " + size, longest[size], x.count(30 + size));
            due.is("19: MEAN " + size, mean[size], x.count(40 + size));
        }
        int[] none = {-1, 7, 8, 9, 10, 19, 20, 29, 30, 39, 40, 49, 50, 51, 58, 148, Integer.MIN_VALUE, Integer.MAX_VALUE};
        for (int what : none) {
            due.is("19: no " + what, -1, x.count(what));
        }
        x.come(8, 8, 0);
        x.set(0, 8);
        for (int i = 0; i < 4; i++) {
            x.send();
        }
        x.chair();
        came(x, 8, 8);
        x.chair();
        x.chair();
        due.is("19: GONE of 8", 3, x.count(18));
        due.is("19: WAIT of 8: 4, 0 and 1", 5, x.count(28));
        due.is("19: LONGEST of 8", 4, x.count(38));
        due.is("19: MEAN of 8, downwards", 166, x.count(48));
    }

    private static void promise29Past() {
        SinglesUp x = ruled("take size;");
        due.is("29: none yet", -1, x.past(0, 0));
        came(x, 3, 1, 2);
        x.chair();
        x.set(3, 1000);
        x.chair();
        x.set(3, 0);
        x.set(1, 10);
        x.chair();
        int[][] past = {{4, 0, 62}, {2, 1, 52}, {0, 2, 6}};
        for (int i = 0; i < 3; i++) {
            for (int what = 0; what < 3; what++) {
                due.is("29: " + i + " back, " + what, past[i][what], x.past(i, what));
            }
        }
        due.is("29: no third", -1, x.past(3, 0));
        due.is("29: -1", -1, x.past(-1, 0));
        due.is("29: what 3", -1, x.past(0, 3));
        due.is("29: what -1", -1, x.past(0, -1));
        x.run(57);
        due.is("29: the 60th", 0, x.past(59, 0));
        due.is("29: its groups", 2, x.past(59, 1));
        due.is("29: not the 61st", -1, x.past(60, 0));
        x.run(1);
        due.is("29: now the one after it", 52, x.past(59, 2));
        due.is("29: still not the 61st", -1, x.past(60, 2));
        due.is("29: the last one", 62 + 58 * 10, x.past(0, 2));
    }
}

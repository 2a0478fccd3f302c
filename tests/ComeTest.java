/** Promises 11 to 15: groups that come, how they stand, and chairs filled by hand. */
public final class ComeTest {
    private static final Due due = new Due();

    public static void main(String[] args) {
        promise11Come();
        promise11FullLine();
        promise12Group();
        promise13Line();
        promise14Pick();
        promise14PickDear();
        promise14PickLines();
        promise15Send();
        promise15SendAsAChairGoes();
        due.end("ComeTest");
    }

    private static void promise11Come() {
        SinglesUp x = new SinglesUp();
        due.is("11: LINE 0", 0, x.come(1, 1, 0));
        due.is("11: the greatest", 0, x.come(8, 8, 3));
        due.is("11: says 1", 0, x.come(8, 1, 3));
        due.is("11: size 0", -2, x.come(0, 0, 0));
        due.is("11: size 9", -2, x.come(9, 9, 0));
        due.is("11: says 0", -2, x.come(2, 0, 0));
        due.is("11: says more", -2, x.come(2, 3, 0));
        due.is("11: sort -1", -2, x.come(2, 2, -1));
        due.is("11: sort 4", -2, x.come(2, 2, 4));
        due.is("11: none of those came", 3, x.told(7));
        due.is("11: or stand", 3, x.line(0, 0));
        Due.tell(x, 4, "line 3 when size=2;");
        due.is("11: LINE 3 by what it says", 3, x.come(5, 2, 0));
        due.is("11: else LINE 0", 0, x.come(2, 1, 0));
        due.is("11: its number", 3, x.group(3, 0, 0));
        due.is("11: the next one's", 4, x.group(0, 3, 0));
    }

    private static void promise11FullLine() {
        SinglesUp x = new SinglesUp();
        Due.tell(x, 4, "line 5 when first<40;line 5 when sort=2;");
        for (int i = 0; i < 40; i++) {
            due.is("11: LINE 5, " + i, 5, x.come(1, 1, 0));
        }
        due.is("11: full", -1, x.come(1, 1, 0));
        due.is("11: AWAY", 1, x.count(6));
        due.is("11: 40 stand", 40, x.line(5, 0));
        Due.tell(x, 4, "");
        due.is("11: LINE 0 is free", 0, x.come(1, 1, 0));
        due.is("11: one that went away has its number", 41, x.group(0, 0, 0));
        for (int i = 1; i < 40; i++) {
            x.come(1, 1, 0);
        }
        due.is("11: LINE 0 is full", -1, x.come(1, 1, 0));
        Due.tell(x, 4, "line 1 when first=40;");
        due.is("11: first is 40", 1, x.come(1, 1, 0));
        due.is("11: AWAY again", 2, x.count(6));
        due.is("11: none can be", -2, x.come(1, 2, 0));
        due.is("11: that is not AWAY", 2, x.count(6));
    }

    private static void promise12Group() {
        SinglesUp x = new SinglesUp();
        Due.tell(x, 0, "take 10*size+left when place=1;take 0-1;");
        x.come(1, 1, 0);
        x.come(5, 3, 3);
        x.come(1, 1, 0);
        int[] told = {1, 5, 3, 3, 0, 0, 34};
        for (int what = 0; what <= 6; what++) {
            due.is("12: what " + what, told[what], x.group(0, 1, what));
        }
        due.is("12: WORTH below 0", -1, x.group(0, 0, 6));
        x.pick(0, 2);
        due.is("12: an empty chair, whoever is picked", 34, x.group(0, 1, 6));
        x.send();
        due.is("12: WAITED", 1, x.group(0, 1, 4));
        due.is("12: PASSED", 1, x.group(0, 1, 5));
        due.is("12: none there", -1, x.group(0, 2, 0));
        due.is("12: none at the last place", -1, x.group(0, 39, 6));
        due.is("12: no such place", -1000000, x.group(0, 40, 0));
        due.is("12: a place below 0", -1000000, x.group(0, -1, 0));
        due.is("12: an empty line", -1, x.group(5, 0, 0));
        due.is("12: line 6", -1000000, x.group(6, 0, 0));
        due.is("12: line -1", -1000000, x.group(-1, 0, 0));
        due.is("12: what 7", -1000000, x.group(0, 0, 7));
        due.is("12: what -1", -1000000, x.group(0, 0, -1));
        due.is("12: what 7 of none", -1000000, x.group(0, 5, 7));
    }

    private static void promise13Line() {
        SinglesUp x = new SinglesUp();
        Due.tell(x, 4, "line 5 when sort=3;");
        x.come(2, 2, 0);
        x.come(5, 1, 3);
        x.come(4, 4, 0);
        due.is("13: groups", 2, x.line(0, 0));
        due.is("13: people", 6, x.line(0, 1));
        due.is("13: groups of 5", 1, x.line(5, 0));
        due.is("13: people, not what they say", 5, x.line(5, 1));
        due.is("13: nobody", 0, x.line(3, 1));
        due.is("13: what 2", -1, x.line(0, 2));
        due.is("13: what -1", -1, x.line(0, -1));
        due.is("13: line 6", -1, x.line(6, 0));
        due.is("13: line -1", -1, x.line(-1, 0));
    }

    private static void promise14Pick() {
        SinglesUp x = new SinglesUp();
        x.come(1, 1, 1);
        x.come(1, 1, 1);
        x.come(3, 1, 3);
        x.come(2, 2, 0);
        x.come(1, 1, 0);
        due.is("14: no such place", 1, x.pick(0, 5));
        due.is("14: place -1", 1, x.pick(0, -1));
        due.is("14: line 6", 1, x.pick(6, 0));
        due.is("14: line -1", 1, x.pick(-1, 0));
        due.is("14: a place far off", 1, x.pick(0, Integer.MAX_VALUE));
        due.is("14: children alone", 4, x.pick(0, 0));
        due.is("14: one alone of 3", 0, x.pick(0, 2));
        due.is("14: picked already", 1, x.pick(0, 2));
        due.is("14: by its size, not what it says", 3, x.pick(0, 3));
        due.is("14: children", 0, x.pick(0, 0));
        due.is("14: no more seats for other children", 3, x.pick(0, 1));
        due.is("14: two are picked", 2, x.told(6));
        x.set(0, 4);
        x.seen(0, 4);
        due.is("14: not seen", 2, x.pick(0, 4));
        x.pick(0, 3);
        due.is("14: children after one of another sort", 0, x.pick(0, 1));
        due.is("14: and others", 0, x.pick(0, 0));
        x.seen(0, 1);
        due.is("14: those out of sight by now stay", 3, x.told(6));
        due.is("14: picked goes before not seen", 1, x.pick(0, 1));
        due.is("14: not seen goes before no seats", 2, x.pick(0, 2));
        due.is("14: all four sit", 4, x.send());
    }

    private static void promise14PickDear() {
        SinglesUp x = new SinglesUp();
        x.come(2, 2, 2);
        x.come(1, 1, 1);
        x.come(1, 1, 0);
        x.come(1, 1, 2);
        due.is("14: dear alone", 0, x.pick(0, 0));
        due.is("14: nobody with the dear", 5, x.pick(0, 2));
        due.is("14: no children, though another one sits", 5, x.pick(0, 1));
        due.is("14: no other dear", 5, x.pick(0, 3));
        due.is("14: picked already", 1, x.pick(0, 0));
        x.set(0, 4);
        due.is("14: plain", 0, x.pick(0, 2));
        due.is("14: dear with others", 5, x.pick(0, 0));
        due.is("14: dear with others, a single", 5, x.pick(0, 3));
        due.is("14: children with plain", 0, x.pick(0, 1));
        x.set(0, 2);
        x.pick(0, 2);
        due.is("14: no seats goes before dear", 3, x.pick(0, 0));
        x.come(4, 4, 1);
        due.is("14: no seats goes before children", 3, x.pick(0, 4));
    }

    private static void promise14PickLines() {
        SinglesUp x = new SinglesUp();
        Due.tell(x, 4, "line 4 when sort=3; line 2 when size=2;");
        x.come(2, 2, 0);
        x.come(1, 1, 3);
        due.is("14: the front of LINE 4", 0, x.pick(4, 0));
        due.is("14: the front of LINE 2", 0, x.pick(2, 0));
        due.is("14: nobody in LINE 0", 1, x.pick(0, 0));
        x.come(1, 1, 0);
        due.is("14: one who came since", 0, x.pick(0, 0));
        due.is("14: sent", 4, x.send());
        due.is("14: in the order in which they were picked", 1, x.last(10));
        due.is("14: then", 0, x.last(11));
        due.is("14: then", 2, x.last(12));
    }

    private static void promise15Send() {
        SinglesUp x = new SinglesUp();
        x.parts(5, 2);
        Due.tell(x, 0, "take 1;");
        due.is("15: nobody", 0, x.send());
        due.is("15: a chair all the same", 1, x.count(0));
        due.is("15: all empty", 4, x.count(1));
        due.is("15: none sat", 0, x.last(0));
        due.is("15: seats left", 4, x.last(1));
        x.come(3, 1, 3);
        x.come(5, 5, 0);
        x.come(1, 1, 0);
        x.pick(0, 2);
        due.is("15: one", 1, x.send());
        due.is("15: nobody is parted", 2, x.line(0, 0));
        due.is("15: nor found out", 1, x.group(0, 0, 2));
        due.is("15: FOUND", 0, x.count(5));
        due.is("15: seats left of 4", 7, x.count(1));
        x.pick(0, 0);
        due.is("15: all three", 3, x.send());
        due.is("15: GONE of 3", 1, x.count(13));
        due.is("15: those picked are picked no more", 0, x.told(6));
        due.is("15: the next chair goes empty", 0, x.send());
    }

    private static void promise15SendAsAChairGoes() {
        SinglesUp x = new SinglesUp();
        x.set(3, 1000);
        Due.tell(x, 4, "line 1 when sort=3;");
        for (int i = 0; i < 5; i++) {
            x.come(1, 1, 0);
        }
        x.come(1, 1, 3);
        x.pick(0, 3);
        x.pick(0, 1);
        due.is("15: two", 2, x.send());
        due.is("15: a stop", 1, x.count(4));
        due.is("15: its time", 46, x.count(3));
        due.is("15: in past", 46, x.past(0, 2));
        int[] numbers = {0, 2, 4};
        int[] passed = {1, 1, 0};
        for (int place = 0; place < 3; place++) {
            due.is("15: who stays at " + place, numbers[place], x.group(0, place, 0));
            due.is("15: WAITED at " + place, 1, x.group(0, place, 4));
            due.is("15: PASSED at " + place, passed[place], x.group(0, place, 5));
        }
        due.is("15: WAITED in another line", 1, x.group(1, 0, 4));
        due.is("15: not PASSED in another line", 0, x.group(1, 0, 5));
        x.pick(0, 0);
        x.send();
        due.is("15: WAIT", 1, x.count(21));
        due.is("15: LONGEST", 1, x.count(31));
        due.is("15: MEAN of 0, 0 and 1", 33, x.count(41));
        due.is("15: nobody was passed now", 1, x.group(0, 0, 5));
    }
}

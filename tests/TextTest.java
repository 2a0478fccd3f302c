/** Promises 7 to 10: the TAPE, the TEXTS and their FAULTS. */
public final class TextTest {
    private static final Due due = new Due();

    public static void main(String[] args) {
        promise07Feed();
        promise08End();
        promise09Text();
        promise09Lines();
        promise09Worth();
        promise09WorthOfB();
        promise09TheLines();
        promise10Faults();
        promise10FaultsOfTheLines();
        promise10ManyOpen();
        promise10Fault();
        due.end("TextTest");
    }

    private static void promise07Feed() {
        SinglesUp x = new SinglesUp();
        for (int n = 20; n <= 400; n += 20) {
            due.is("7: fed " + n, n, x.feed(0x20202020, 0x20202020, 0x20202020, 0x20202020, 0x20202020));
        }
        due.is("7: more than 400", -1, x.feed(0, 0, 0, 0, 0));
        due.is("7: nothing came", false, x.end(401));
        due.is("7: 400 are there", true, x.end(400));
        x.end(381);
        due.is("7: 401 would be there", -1, x.feed(0, 0, 0, 0, 0));
        x.end(380);
        due.is("7: 400 again", 400, x.feed(0x20202020, 0x20202020, 0x20202020, 0x20202020, 0x74616b65));
        due.is("7: take comes last of all", -1, x.text(0));
        due.is("7: so the end is missed", 400, x.fault(1));
        due.is("7: of each number the highest first", 20, x.feed(0x74616b65, 0x20363b20, 0x20202020, 0x20202020, 0x20202020));
        due.is("7: take 6;", 1, x.text(0));
        x.come(1, 1, 0);
        due.is("7: 6", 6, x.group(0, 0, 6));
        due.is("7: bytes without sign", 20, x.feed(-1, -1, -1, -1, -1));
        due.is("7: none that can stand there", -1, x.text(0));
        due.is("7: at once", 0, x.fault(1));
        due.is("7: a, b, c, d, e", 20, x.feed(0x74616b65, 0x20312020, 0x2b202020, 0x20312020, 0x3b202020));
        x.text(0);
        due.is("7: 1 + 1", 2, x.group(0, 0, 6));
    }

    private static void promise08End() {
        SinglesUp x = new SinglesUp();
        due.is("8: 0 of none", true, x.end(0));
        due.is("8: 1 of none", false, x.end(1));
        Due.feed(x, "take 1;xxxxxxxxxxxxx");
        due.is("8: 21 of 20", false, x.end(21));
        due.is("8: below 0", false, x.end(-1));
        due.is("8: nothing changed", 40, x.feed(0, 0, 0, 0, 0));
        due.is("8: 7", true, x.end(7));
        due.is("8: not 8 any more", false, x.end(8));
        due.is("8: the first 7", 1, x.text(0));
        due.is("8: empty then", false, x.end(1));
        Due.feed(x, "take");
        due.is("8: behind those that are left", 24, x.feed(0x20373b20, 0x20202020, 0x20202020, 0x20202020, 0x20202020));
        due.is("8: take 7;", 1, x.text(0));
    }

    private static void promise09Text() {
        SinglesUp x = new SinglesUp();
        due.is("9: an empty one", 0, x.text(0));
        due.is("9: two lines", 2, Due.tell(x, 0, "take 1 when size=2; take 3;"));
        due.is("9: rule 3", 1, Due.tell(x, 3, "take 4;"));
        due.is("9: THE LINES", 1, Due.tell(x, 4, "line 2 when size=1;"));
        x.come(1, 1, 0);
        due.is("9: RULE 0", 3, x.group(2, 0, 6));
        x.set(5, 3);
        due.is("9: RULE 3", 4, x.group(2, 0, 6));
        x.set(5, 1);
        due.is("9: RULE 1 is empty", 0, x.group(2, 0, 6));
        x.set(5, 3);
        Due.feed(x, "take 9;");
        due.is("9: no text 5", -1, x.text(5));
        due.is("9: fault 0", 0, x.fault(0));
        due.is("9: the TAPE is empty", false, x.end(1));
        due.is("9: a FAULT", -1, Due.tell(x, 3, "take 5; take 6"));
        due.is("9: the TAPE is empty then", false, x.end(1));
        due.is("9: the TEXT stays", 4, x.group(2, 0, 6));
        due.is("9: fault 1", 1, x.fault(0));
        due.is("9: no text -1", -1, x.text(-1));
        due.is("9: fault 0 again", 0, x.fault(0));
        due.is("9: no place", -1, x.fault(1));
        due.is("9: empty again", 0, x.text(3));
        due.is("9: so worth nothing", 0, x.group(2, 0, 6));
    }

    private static void promise09Lines() {
        SinglesUp x = new SinglesUp();
        StringBuilder sixteen = new StringBuilder();
        for (int i = 0; i < 16; i++) {
            sixteen.append("take ").append(i + 10).append(" when size=").append(i < 15 ? i + 2 : 1).append(";");
        }
        due.is("9: 16 lines", 16, Due.tell(x, 0, sixteen.toString()));
        x.come(1, 1, 0);
        due.is("9: the 16th", 25, x.group(0, 0, 6));
        x.come(3, 3, 0);
        due.is("9: the 2nd", 11, x.group(0, 1, 6));
        due.is("9: of two that are so the first", 2, Due.tell(x, 0, "take 1;take 2;"));
        due.is("9: 1", 1, x.group(0, 0, 6));
        due.is("9: without one that is so", 1, Due.tell(x, 0, "take 5 when size=2;"));
        due.is("9: 0", 0, x.group(0, 0, 6));
        due.is("9: blanks and none", 2, Due.tell(x, 0, "  take\n3when size\n=\n1or size=2;take 4;\n "));
        due.is("9: 3", 3, x.group(0, 0, 6));
        StringBuilder full = new StringBuilder("take 1");
        while (full.length() < 398) {
            full.append("+1");
        }
        due.is("9: 400 bytes", 1, Due.tell(x, 0, full.append(" ;").toString()));
        due.is("9: 197 ones", 197, x.group(0, 0, 6));
    }

    /** In front a group of 1; then one of 3 that says 2, alone; then children, 2; LINE 1 is empty. */
    private static SinglesUp three() {
        SinglesUp x = new SinglesUp();
        x.come(1, 1, 0);
        x.come(3, 2, 3);
        x.come(2, 2, 1);
        x.pick(0, 2);
        x.pick(0, 0);
        return x;
    }

    private static void promise09Worth() {
        SinglesUp x = three();
        String[] sums = {"size", "left", "place", "line", "passed", "waited", "sort", "taken", "behind", "9999", "007",
            "7-2*3+9/2", "2*3*4", "100/7/2", "9-3-2", "9999*9999*22", "9999*9999*22/9999", "3-5", "1+2*3-4/2*5",
            "size*10+sort", "left/0009", "9999*9999*9999*9999"};
        int[] worths = {2, 4, 1, 0, 0, 0, 3, 0, 1, 9999, 7, 5, 24, 7, 4, -2095407274, -209561, -2, -3, 23, 0,
            (int) (99980001L * 99980001L)};
        for (int i = 0; i < sums.length; i++) {
            due.is("9: take " + sums[i], 1, Due.tell(x, 0, "take " + sums[i] + ";"));
            due.is("9: worth " + sums[i], worths[i], x.group(0, 1, 6));
        }
        x.set(0, 7);
        Due.tell(x, 0, "take left;");
        due.is("9: left of 7", 7, x.group(0, 1, 6));
        x.send();
        x.pick(0, 2);
        x.pick(0, 0);
        x.send();
        Due.tell(x, 0, "take 100*waited+10*passed+behind;");
        due.is("9: waited twice, passed never", 201, x.group(0, 0, 6));
        x.pick(0, 0);
        due.is("9: the one behind it", 200, x.group(0, 1, 6));
        x = new SinglesUp();
        x.come(4, 4, 0);
        x.come(1, 1, 0);
        x.come(1, 1, 0);
        x.send();
        x.pick(0, 1);
        x.send();
        Due.tell(x, 0, "take 10*passed+waited;");
        due.is("9: passed once, waited twice", 12, x.group(0, 0, 6));
    }

    private static void promise09WorthOfB() {
        SinglesUp x = three();
        String[] so = {"1<2", "1=1", "3>2", "not 1=2", "1=1 or 1=2", "1=1 and 1=1", "1=1 or 1=1 and 1=2",
            "1=2 and 1=2 or 1=1", "not not 1=1", "1=2 or 1=2 or 1=1", "1=1 or 1=2 or 1=2", "1=2 or 1=1 or 1=2", "1=1 and 1=2 or 1=1 and 1=1", "((1=1))", "1+1=2",
            "size=2", "sort=3 and behind=1", "0-1<0", "not (not (not (not 1=1)))", "1=2 or not 1=2 and not 1=2",
            "(1=2 or 1=1) and (1=1 or 1=2)", "not (1=2 or 1=2)"};
        String[] notSo = {"2<2", "3<2", "1=2", "2>2", "1>2", "not 1=1", "1=2 or 1=2", "1=1 and 1=2",
            "(1=1 or 1=1) and 1=2", "not (1=2 or 1=1)", "not 1=2 and 1=2", "size=3", "size<2", "left>4", "taken>0"};
        for (String test : so) {
            due.is("9: when " + test, 2, Due.tell(x, 0, "take 5 when " + test + "; take 0-7;"));
            due.is("9: is " + test, 5, x.group(0, 1, 6));
        }
        for (String test : notSo) {
            due.is("9: when " + test, 2, Due.tell(x, 0, "take 5 when " + test + "; take 0-7;"));
            due.is("9: is not " + test, -7, x.group(0, 1, 6));
        }
    }

    private static void promise09TheLines() {
        SinglesUp x = new SinglesUp();
        due.is("9: four lines", 4,
            Due.tell(x, 4, "line 5 when size=4; line 1 when sort=2; line 2 when first>1; line 3 when short=1;"));
        due.is("9: by what it says", 5, x.come(8, 4, 0));
        due.is("9: not by its size", 0, x.come(4, 3, 0));
        due.is("9: by the sort", 1, x.come(1, 1, 2));
        due.is("9: short is 2, first 1", 0, x.come(1, 1, 0));
        due.is("9: first is 2", 2, x.come(1, 1, 0));
        Due.tell(x, 4, "line 4 when short=3; line 0 when short=4; line 1 when 1=1;");
        due.is("9: the shortest is 3", 4, x.come(1, 1, 0));
        due.is("9: the first of several", 4, x.come(1, 1, 0));
        Due.tell(x, 4, "line 3 when short=3;line 2 when 1=1;");
        due.is("9: 3 is still the shortest", 3, x.come(1, 1, 0));
        due.is("9: 1 is the shortest now", 2, x.come(1, 1, 0));
        x = new SinglesUp();
        x.come(1, 1, 0);
        Due.tell(x, 4, "line 4 when short=1; line 5 when short=2;");
        due.is("9: LINE 1 is the shortest", 4, x.come(1, 1, 0));
    }

    private static void fault(int k, String text, int fault, int place) {
        SinglesUp x = new SinglesUp();
        due.is("10: " + text, -1, Due.tell(x, k, text));
        due.is("10: fault of " + text, fault, x.fault(0));
        due.is("10: place of " + text, place, x.fault(1));
    }

    private static void promise10Faults() {
        fault(0, "take", 1, 4);
        fault(0, "take ", 1, 5);
        fault(0, "take 1", 1, 6);
        fault(0, "take 1 \n ", 1, 9);
        fault(0, "x", 1, 0);
        fault(0, " ;", 1, 1);
        fault(0, "Take 1;", 1, 0);
        fault(0, "taker 1;", 1, 0);
        fault(0, "tak 1;", 1, 0);
        for (String letter : new String[] {"a", "z", "A", "Z"}) {
            fault(0, "take" + letter + " 1;", 1, 0);
        }
        for (String sign : new String[] {"@", "[", "`", "{"}) {
            fault(0, "take" + sign + " 1;", 1, 4);
        }
        fault(0, "take 1:;", 1, 6);
        fault(0, "take /1;", 1, 5);
        fault(0, "line 1 when 1=1;", 1, 0);
        fault(0, "take 12345;", 1, 5);
        fault(0, "take 00000;", 1, 5);
        fault(0, "take first;", 1, 5);
        fault(0, "take short;", 1, 5);
        fault(0, "take 1 2;", 1, 7);
        fault(0, "take 1x2;", 1, 6);
        fault(0, "take -1;", 1, 5);
        fault(0, "take (1);", 1, 5);
        fault(0, "take 1+;", 1, 7);
        fault(0, "take 1*;", 1, 7);
        fault(0, "take 1+*1;", 1, 7);
        fault(0, "take 1/size;", 1, 7);
        fault(0, "take 1/;", 1, 7);
        fault(0, "take 1/0;", 2, 7);
        fault(0, "take 1 / 0000;", 2, 9);
        fault(0, "take 1/00000;", 1, 7);
        fault(0, "take 1/0", 2, 7);
        fault(0, "take 1/1/0;", 2, 9);
        fault(0, "take 1 when 1/0=1;", 2, 14);
        fault(0, "take 1<2;", 1, 6);
        fault(0, "take 1 when;", 1, 11);
        fault(0, "take 1 when 1;", 1, 13);
        fault(0, "take 1 when 1=;", 1, 14);
        fault(0, "take 1 when 1=1=1;", 1, 15);
        fault(0, "take 1 when 1=1 or;", 1, 18);
        fault(0, "take 1 when or 1=1;", 1, 12);
        fault(0, "take 1 when 1=1 and;", 1, 19);
        fault(0, "take 1 when (1=1;", 1, 16);
        fault(0, "take 1 when 1=1);", 1, 15);
        fault(0, "take 1 when (1)=1;", 1, 14);
        fault(0, "take 1 when not;", 1, 15);
        fault(0, "take 1 when 1=1 not 1=1;", 1, 16);
        fault(0, "take 1;;", 1, 7);
        fault(0, "take 1;\ttake 1;", 1, 7);
        fault(0, "take 1;\rtake 1;", 1, 7);
        fault(0, "take 1.;", 1, 6);
        fault(0, "take 1;\u0000", 1, 7);
        fault(0, "take 1;\u00e9", 1, 7);
        fault(0, "take \u00e9/0;", 1, 5);
        fault(0, "take 1/0;!", 2, 7);
        fault(0, "take 1!/0;", 1, 6);
        fault(0, "take place/place;", 1, 11);
        fault(0, "takesize;", 1, 0);
    }

    private static void promise10FaultsOfTheLines() {
        fault(4, "line", 1, 4);
        fault(4, "take 1;", 1, 0);
        fault(4, "line 6 when 1=1;", 2, 5);
        fault(4, "line 9999 when 1=1;", 2, 5);
        fault(4, "line 10000 when 1=1;", 1, 5);
        fault(4, "line size when 1=1;", 1, 5);
        fault(4, "line 1;", 1, 6);
        fault(4, "line 1+1 when 1=1;", 1, 6);
        fault(4, "line 1 when left=1;", 1, 12);
        fault(4, "line 1 when line=1;", 1, 12);
        fault(4, "line 1 when behind=1;", 1, 12);
        fault(4, "line 1 when 1=1", 1, 15);
        fault(4, "line 1 when 1=1/0;", 2, 16);
        fault(4, "line 6 !", 2, 5);
        SinglesUp x = new SinglesUp();
        due.is("10: line 5 and leading 0s", 2, Due.tell(x, 4, "line 5 when size=1; line 0000 when size=2;"));
        due.is("10: no fault", 0, x.fault(0));
        due.is("10: no place", -1, x.fault(1));
    }

    private static String times(String text, int n) {
        StringBuilder all = new StringBuilder();
        for (int i = 0; i < n; i++) {
            all.append(text);
        }
        return all.toString();
    }

    private static void promise10ManyOpen() {
        SinglesUp x = new SinglesUp();
        due.is("10: eight not", 1, Due.tell(x, 0, "take 1 when " + times("not ", 8) + "1=1;"));
        due.is("10: eight (", 1, Due.tell(x, 0, "take 1 when " + times("(", 8) + "1=1" + times(")", 8) + ";"));
        due.is("10: eight twice", 1, Due.tell(x, 0,
            "take 1 when " + times("(", 8) + "1=1" + times(")", 8) + " or " + times("not ", 8) + "1=1;"));
        due.is("10: those that are closed do not count", 1, Due.tell(x, 0,
            "take 1 when (" + times("not 1=1 and ", 20) + "(not 1=2));"));
        fault(0, "take 1 when " + times("not ", 9) + "1=1;", 3, 44);
        fault(0, "take 1 when " + times("(", 9) + "1=1" + times(")", 9) + ";", 3, 20);
        fault(0, "take 1 when " + times("(not ", 4) + "(1=1" + times(")", 5) + ";", 3, 32);
        fault(0, "take 1 when " + times("not ", 8) + ";", 1, 44);
        fault(4, "line 1 when " + times("not ", 9) + "1=1;", 3, 44);
        fault(0, times("take 1;", 17), 3, 112);
        fault(0, times("take 1;", 16) + "x", 1, 112);
        fault(0, times("take 1;", 16) + "  take", 3, 114);
        fault(4, times("line 1 when 1=1;", 17), 3, 256);
        due.is("10: 16 lines of THE LINES", 16, Due.tell(x, 4, times("line 1 when 1=1;", 16)));
    }

    private static void promise10Fault() {
        SinglesUp x = new SinglesUp();
        Due.tell(x, 0, "take 1/0;");
        due.is("10: what 0", 2, x.fault(0));
        due.is("10: what 1", 7, x.fault(1));
        due.is("10: what 2", -1, x.fault(2));
        due.is("10: what -1", -1, x.fault(-1));
        Due.feed(x, "take 1;");
        due.is("10: of the latest text() alone", 2, x.fault(0));
        x.text(0);
        due.is("10: none now", 0, x.fault(0));
        due.is("10: no place now", -1, x.fault(1));
    }
}

/** The words of part 2: what a TEXT is, its TOKENS and its FAULTS. */
final class TextEdges {
    private static final String[] WORDS = {"take", "when", "or", "and", "not", "size", "left", "place", "line",
        "passed", "waited", "sort", "taken", "behind", "short", "first"};

    private final Doc doc;

    TextEdges(Doc doc) {
        this.doc = doc;
    }

    void all() {
        doc.section("==== 2.");
        rules();
        theLines();
        tests();
        sums();
        units();
        tokens();
        numbers();
        faults();
        manyFaults();
    }

    private void good(int k, String text, int lines) {
        SinglesUp x = new SinglesUp();
        doc.is(text, lines, Due.tell(x, k, text));
        doc.is(text + ": no FAULT", 0, x.fault(0));
    }

    private void bad(int k, String text, int fault, int place) {
        SinglesUp x = new SinglesUp();
        doc.is(text, -1, Due.tell(x, k, text));
        doc.is(text + ": the FAULT", fault, x.fault(0));
        doc.is(text + ": its place", place, x.fault(1));
    }

    /** E, of a plain single in front of another one, on an empty chair of 4. */
    private void worth(String e, int worth) {
        SinglesUp x = Doc.ruled("take " + e + ";", 1, 1);
        doc.is(e, worth, x.group(0, 0, 6));
    }

    private void so(String b) {
        SinglesUp x = Doc.ruled("take 5 when " + b + ";take 7;", 1, 1);
        doc.is(b, 5, x.group(0, 0, 6));
    }

    private void notSo(String b) {
        SinglesUp x = Doc.ruled("take 5 when " + b + ";take 7;", 1, 1);
        doc.is(b, 7, x.group(0, 0, 6));
    }

    private void rules() {
        doc.says("RULES 0 .. 3 are TEXTS (empty at first) = {take E [when B] ;}.");
        for (int rule = 0; rule <= 3; rule++) {
            SinglesUp x = new SinglesUp();
            Doc.came(x, 1);
            x.set(5, rule);
            doc.is("RULE " + rule + " at first", 0, x.group(0, 0, 6));
            doc.is("nobody goes by it", 0, x.chair());
            doc.is("told", 1, Due.tell(x, rule, "take " + (rule + 5) + ";"));
            doc.is("RULE " + rule, rule + 5, x.group(0, 0, 6));
            doc.is("one goes by it", 1, x.chair());
            good(rule, "", 0);
            good(rule, " \n ", 0);
            good(rule, "take 1;", 1);
            good(rule, "take 1;take 2 when 1=1;take 3;", 3);
            bad(rule, ";", 1, 0);
            bad(rule, "take", 1, 4);
            bad(rule, "take;", 1, 4);
            bad(rule, "take 1", 1, 6);
            bad(rule, "take 1 2;", 1, 7);
            bad(rule, "take when 1=1;", 1, 5);
            bad(rule, "take 1 when", 1, 11);
            bad(rule, "take 1 when;", 1, 11);
            bad(rule, "take 1 when 1=1", 1, 15);
            bad(rule, "take 1 when 1=1 when 1=1;", 1, 16);
            bad(rule, "take 1;;", 1, 7);
            bad(rule, "take 1;1", 1, 7);
            bad(rule, "when 1=1;", 1, 0);
            bad(rule, "line 1 when 1=1;", 1, 0);
        }
        SinglesUp x = new SinglesUp();
        doc.is("no RULE -1", -1, Due.tell(x, -1, "take 1;"));
        doc.is("5 is none", -1, Due.tell(x, 5, "take 1;"));
    }

    private void theLines() {
        doc.says("THE LINES (4) are a TEXT (empty at first) = {line N when B ;} (N a LINE).");
        SinglesUp x = new SinglesUp();
        for (int size = 1; size <= 8; size++) {
            doc.is("LINE 0 at first", 0, x.come(size, size, size % 4));
        }
        for (int line = 0; line <= 5; line++) {
            doc.is("line " + line, 1, Due.tell(x, 4, "line " + line + " when 1=1;"));
            doc.is("LINE " + line, line, x.come(1, 1, 0));
        }
        doc.is("empty again", 0, Due.tell(x, 4, ""));
        doc.is("LINE 0 again", 0, x.come(1, 1, 0));
        good(4, " \n ", 0);
        good(4, "line 0 when 1=1;line 5 when 1=1;", 2);
        bad(4, "line 6 when 1=1;", 2, 5);
        bad(4, "line", 1, 4);
        bad(4, "line;", 1, 4);
        bad(4, "line 1", 1, 6);
        bad(4, "line 1;", 1, 6);
        bad(4, "line 1 when", 1, 11);
        bad(4, "line 1 when;", 1, 11);
        bad(4, "line 1 when 1=1", 1, 15);
        bad(4, "line when 1=1;", 1, 5);
        bad(4, "line size when 1=1;", 1, 5);
        bad(4, "line 1+1 when 1=1;", 1, 6);
        bad(4, "line 1 when 1=1;;", 1, 16);
        bad(4, "take 1;", 1, 0);
    }

    private void tests() {
        doc.says("B = A {or A}.");
        so("1=1");
        notSo("1=2");
        so("1=1 or 1=2");
        so("1=2 or 1=1");
        notSo("1=2 or 1=2");
        so("1=2 or 1=2 or 1=2 or 1=1");
        so("1=1 or 1=2 or 1=2 or 1=2");
        notSo("1=2 or 1=2 or 1=2 or 1=2");
        so("1=1 or 1=1 and 1=2");
        bad(0, "take 1 when or 1=1;", 1, 12);
        bad(0, "take 1 when 1=1 or;", 1, 18);
        bad(0, "take 1 when 1=1 or or 1=1;", 1, 19);

        doc.says("A = C {and C}.");
        so("1=1 and 1=1");
        notSo("1=1 and 1=2");
        notSo("1=2 and 1=1");
        notSo("1=1 and 1=1 and 1=2");
        notSo("1=2 and 1=1 and 1=1");
        so("1=1 and 1=1 and 1=1 and 1=1");
        so("1=2 and 1=2 or 1=1");
        so("1=1 and 1=1 or 1=2 and 1=1");
        so("1=2 and 1=1 or 1=1 and 1=1");
        notSo("1=2 and 1=1 or 1=1 and 1=2");
        bad(0, "take 1 when and 1=1;", 1, 12);
        bad(0, "take 1 when 1=1 and;", 1, 19);
        bad(0, "take 1 when 1=1 and or 1=1;", 1, 20);

        doc.says("C = E (< | = | >) E | not C | ( B ).");
        so("1<2");
        notSo("2<2");
        notSo("3<2");
        so("2=2");
        notSo("1=2");
        notSo("3=2");
        so("3>2");
        notSo("2>2");
        notSo("1>2");
        so("0-3<0-2");
        so("0-1<0");
        notSo("0-1>0");
        so("1+1=2");
        so("not 1=2");
        notSo("not 1=1");
        so("not not 1=1");
        notSo("not 1=1 or 1=2");
        notSo("not 1<2");
        notSo("not 2>1");
        so("1<2 and 1=1");
        so("2>1 and 1<2");
        so("not 1=2 and 1=1");
        notSo("not (1=2 or 1=1)");
        so("(1=1)");
        so("((1=2) or 1=1)");
        notSo("(1=1 or 1=1) and 1=2");
        bad(0, "take 1 when 1;", 1, 13);
        bad(0, "take 1 when <1;", 1, 12);
        bad(0, "take 1 when 1<;", 1, 14);
        bad(0, "take 1 when 1<=1;", 1, 14);
        bad(0, "take 1 when 1==1;", 1, 14);
        bad(0, "take 1 when 1=1=1;", 1, 15);
        bad(0, "take 1 when 1=not 1=1;", 1, 14);
        bad(0, "take 1 when not;", 1, 15);
        bad(0, "take 1 when 1=1 not 1=1;", 1, 16);
        bad(0, "take 1 when ();", 1, 13);
        bad(0, "take 1 when (1);", 1, 14);
        bad(0, "take 1 when (1+1)=2;", 1, 16);
        bad(0, "take 1 when 2=(1+1);", 1, 14);
        bad(0, "take 1 when (1=1;", 1, 16);
        bad(0, "take 1 when 1=1);", 1, 15);
        bad(0, "take 1 when (1=1) 1=1;", 1, 18);
    }

    private void sums() {
        doc.says("E = T {(+ | -) T}.");
        worth("7", 7);
        worth("7+2", 9);
        worth("7-2", 5);
        worth("2-7", -5);
        worth("9-3-2", 4);
        worth("9-3+2", 8);
        worth("9-2*3", 3);
        worth("2*3-4*5+6/2", -11);
        bad(0, "take +1;", 1, 5);
        bad(0, "take -1;", 1, 5);
        bad(0, "take 1+;", 1, 7);
        bad(0, "take 1-;", 1, 7);
        bad(0, "take 1+-1;", 1, 7);
        bad(0, "take (1+1);", 1, 5);

        doc.says("T = U {* U | / NUMBER}.");
        worth("2*3", 6);
        worth("2*3*4", 24);
        worth("9/2", 4);
        worth("9/2/2", 2);
        worth("9/2*2", 8);
        worth("2*9/4", 4);
        worth("8/8", 1);
        worth("7/1", 7);
        worth("7/1*2", 14);
        worth("7/8", 0);
        worth("9999/9999", 1);
        bad(0, "take *1;", 1, 5);
        bad(0, "take 1*;", 1, 7);
        bad(0, "take 1**1;", 1, 7);
        bad(0, "take /1;", 1, 5);
        bad(0, "take 1/;", 1, 7);
        bad(0, "take 1/size;", 1, 7);
        bad(0, "take 1/-1;", 1, 7);
        bad(0, "take 8/4/left;", 1, 9);
    }

    private void units() {
        doc.says("U = NUMBER | size | left | place | line | passed | waited | sort | taken | behind in RULES;");
        String allowed = " size left place line passed waited sort taken behind ";
        for (String word : WORDS) {
            if (allowed.contains(" " + word + " ")) {
                good(1, "take " + word + ";", 1);
                good(1, "take 2*" + word + " when " + word + "<1-" + word + ";", 1);
            } else {
                bad(1, "take " + word + ";", 1, 5);
                bad(1, "take 2*" + word + ";", 1, 7);
                bad(1, "take 1 when 1=" + word + ";", 1, 14);
            }
        }

        doc.says("NUMBER | size | sort | short | first in THE LINES.");
        allowed = " size sort short first ";
        for (String word : WORDS) {
            if (allowed.contains(" " + word + " ")) {
                good(4, "line 1 when " + word + "=1;", 1);
                good(4, "line 1 when 1=2*" + word + "-" + word + ";", 1);
            } else {
                bad(4, "line 1 when 1=" + word + ";", 1, 14);
                bad(4, "line 1 when 1=2*" + word + ";", 1, 16);
                if (!word.equals("not")) {
                    bad(4, "line 1 when " + word + "=1;", 1, 12);
                }
            }
        }
    }

    private void tokens() {
        doc.says("TOKENS: letters (capitals, too) as many as stand together are KEYWORDS (those told for such a TEXT)"
            + " or none;");
        bad(0, "Take 1;", 1, 0);
        bad(0, "TAKE 1;", 1, 0);
        bad(0, "tak 1;", 1, 0);
        bad(0, "takes 1;", 1, 0);
        bad(0, "t ake 1;", 1, 0);
        bad(0, "takesize;", 1, 0);
        for (String letter : new String[] {"a", "z", "A", "Z"}) {
            bad(0, "take" + letter + " 1;", 1, 0);
            bad(0, letter + "take 1;", 1, 0);
        }
        bad(0, "take Size;", 1, 5);
        bad(0, "take sizeleft;", 1, 5);
        bad(0, "take siz;", 1, 5);
        bad(0, "take si ze;", 1, 5);
        bad(0, "take 1 When 1=1;", 1, 7);
        bad(0, "take 1 when 1=1 Or 1=1;", 1, 16);
        bad(0, "take 1 when NOT 1=1;", 1, 12);
        bad(0, "take 1 when notnot 1=1;", 1, 12);
        good(0, "take1when not1=2or size=1and(1=1);", 1);
        good(0, "take size*2when 1=1;", 1);
        bad(4, "Line 1 when 1=1;", 1, 0);
        bad(4, "line 1 when shorT=1;", 1, 12);
        good(4, "line1when 1=1;", 1);

        doc.says("digits as many as stand together NUMBERS of 1 to 4 digits or none;");
        worth("0", 0);
        worth("9", 9);
        worth("10", 10);
        worth("999", 999);
        worth("1000", 1000);
        worth("9999", 9999);
        worth("0009", 9);
        worth("0010", 10);
        worth("0000", 0);
        bad(0, "take 10000;", 1, 5);
        bad(0, "take 00001;", 1, 5);
        bad(0, "take 1 2;", 1, 7);
        bad(0, "take 2147483647;", 1, 5);
        bad(0, "take 1+12345;", 1, 7);
        bad(0, "take 1;12345", 1, 7);
        bad(0, "take 9/10000;", 1, 7);
        bad(4, "line 00001 when 1=1;", 1, 5);
        good(4, "line 0005 when 1=1;", 1);

        doc.says("; + - * / ( ) < = > .");
        for (int sign = 0; sign <= 255; sign++) {
            char c = (char) sign;
            String text = "take 1" + c + ";";
            if (c >= '0' && c <= '9' || c == ' ' || c == '\n') {
                good(0, text, 1);
            } else {
                bad(0, text, 1, c == ';' || c == '+' || c == '-' || c == '*' || c == '/' ? 7 : 6);
            }
        }
        bad(0, Doc.times("(", 400), 1, 0);
        bad(0, Doc.times("1+", 200), 1, 0);

        doc.says("Blanks (32, 10) between.");
        good(0, "\n take\n 1 \n+ 1 when\n(\n1 =\n 1 ) ; \n", 1);
        good(0, "take 1+1when(1=1);", 1);
        bad(0, "take\t1;", 1, 4);
        bad(0, "take 1;\r", 1, 7);
        bad(0, "take 1\u000b;", 1, 6);
        bad(0, "take\u00a01;", 1, 4);
        bad(0, "take 1 1;", 1, 7);
    }

    private void numbers() {
        doc.says("Ints, which wrap;");
        int most = 9999 * 9999 * 21;
        worth("9999*9999*21", most);
        worth("9999*9999*22", -2095407274);
        worth("9999*9999*21+9999*4769", most + 9999 * 4769);
        // 2147483647 is 9999 * 9999 * 21 + 9999 * 4790 + 8416.
        worth("9999*9999*21+9999*4790+8416", Integer.MAX_VALUE);
        worth("9999*9999*21+9999*4790+8417", Integer.MIN_VALUE);
        worth("0-9999*9999*21-9999*4790-8417", Integer.MIN_VALUE);
        worth("0-9999*9999*21-9999*4790-8418", Integer.MAX_VALUE);
        so("9999*9999*22<0");
        notSo("9999*9999*22>0");

        doc.says("/ goes towards 0.");
        worth("0-9/2", -4);
        worth("9999*9999*22/1000", -2095407);
        worth("9999*9999*22/9999", -209561);
        SinglesUp x = Doc.ruled("take 9999*9999*21*waited/2;", 1, 1);
        x.chair();
        doc.is("of one that waited once", 1049790010, x.group(0, 0, 6));
        Due.tell(x, 0, "take size*9999*9999*22/9998;");
        doc.is("of a product", -209582, x.group(0, 0, 6));
    }

    private void faults() {
        doc.says("FAULTS, the first by its place, at one place the least:");
        bad(0, "take 1/0;!", 2, 7);
        bad(0, "take !/0;", 1, 5);
        bad(0, "take 1/0/0;", 2, 7);
        bad(4, "line 7 when 1/0=1;", 2, 5);
        bad(4, "line 1 when 1/0=left;", 2, 14);
        bad(4, "line 1 when left=1/0;", 1, 12);
        bad(0, "take 1/00000;", 1, 7);
        bad(4, "line 60000 when 1=1;", 1, 5);
        bad(0, Doc.times("take 1;", 16) + "taken", 1, 112);
        bad(0, Doc.times("take 1;", 16) + "take !", 3, 112);
        bad(0, Doc.times("take 1;", 15) + "take !;take 1;", 1, 110);
        bad(0, "take 1 when " + Doc.times("(", 8) + "1=(1=1)", 1, 22);
        bad(0, "take 1 when " + Doc.times("not ", 9) + "!", 3, 44);
        bad(0, "take 1 when " + Doc.times("not ", 8) + "!not", 1, 44);

        doc.says("1 what can't stand there (the end: the text's length).");
        bad(0, "take 1 ", 1, 7);
        bad(0, "take 1\n\n\n", 1, 9);
        bad(0, "t", 1, 0);
        bad(0, "   take", 1, 7);
        bad(0, "take 1 when 1=1 and (", 1, 21);
        bad(0, "take 1" + Doc.times(" ", 394), 1, 400);
        bad(0, Doc.times(" ", 399) + "x", 1, 399);
        bad(0, Doc.times(" ", 396) + "take", 1, 400);
        bad(0, Doc.times(" ", 391) + "take 1/0;", 2, 398);
        bad(0, Doc.times(" ", 393) + "take 12", 1, 400);
        bad(0, Doc.times(" ", 393) + "takes 1", 1, 393);
        bad(4, Doc.times(" ", 393) + "line 10", 2, 398);
        good(0, Doc.times(" ", 393) + "take 1;", 1);
        good(0, Doc.times(" ", 400), 0);
    }

    private void manyFaults() {
        doc.says("2 (at the NUMBER) a part by 0, a LINE above 5.");
        bad(0, "take 1/0;", 2, 7);
        bad(0, "take 1/ 000;", 2, 8);
        bad(0, "take size/1/0000+1;", 2, 12);
        bad(0, "take 1 when 1=1/0;", 2, 16);
        good(0, "take 0/1;", 1);
        good(0, "take 1/0001;", 1);
        bad(0, "take 1/0", 2, 7);
        bad(4, "line 6 when 1=1;", 2, 5);
        bad(4, "line  9999", 2, 6);
        bad(4, "line 10 when 1=1;", 2, 5);
        bad(4, "line 1 when 1/0=1;", 2, 14);
        good(4, "line 5 when 1=1;", 1);
        good(4, "line 0 when 1=1;", 1);

        doc.says("3 (at its KEYWORD) the 17th line;");
        good(0, Doc.times("take 1;", 16), 16);
        bad(0, Doc.times("take 1;", 17), 3, 112);
        bad(0, Doc.times("take 1;", 16) + " \n take 1;", 3, 115);
        bad(0, Doc.times("take 1;", 16) + "take", 3, 112);
        bad(0, Doc.times("take 1;", 20), 3, 112);
        bad(0, Doc.times("take 1;", 16) + "1", 1, 112);
        bad(0, Doc.times("take 1;", 16) + ";", 1, 112);
        good(4, Doc.times("line 1 when 1=1;", 16), 16);
        bad(4, Doc.times("line 1 when 1=1;", 17), 3, 256);
        bad(4, Doc.times("line 1 when 1=1;", 16) + "take", 1, 256);

        doc.says("(at it) the 9th ( or not that is open.");
        good(0, "take 1 when " + Doc.times("not ", 8) + "1=1;", 1);
        bad(0, "take 1 when " + Doc.times("not ", 9) + "1=1;", 3, 44);
        good(0, "take 1 when " + Doc.times("(", 8) + "1=1" + Doc.times(")", 8) + ";", 1);
        bad(0, "take 1 when " + Doc.times("(", 9) + "1=1" + Doc.times(")", 9) + ";", 3, 20);
        good(0, "take 1 when " + Doc.times("not(", 4) + "1=1" + Doc.times(")", 4) + ";", 1);
        bad(0, "take 1 when " + Doc.times("not(", 4) + "not 1=1" + Doc.times(")", 4) + ";", 3, 28);
        bad(0, "take 1 when " + Doc.times("not(", 4) + "(1=1)" + Doc.times(")", 4) + ";", 3, 28);
        // Closed: a ( by its ), a not by the end of its C.
        good(0, "take 1 when " + Doc.times("(1=1)and ", 12) + "(1=1);", 1);
        good(0, "take 1 when " + Doc.times("not 1=2 or ", 12) + "not 1=2;", 1);
        good(0, "take 1 when " + Doc.times("(", 7) + "not 1=1 or (1=1)" + Doc.times(")", 7) + ";", 1);
        bad(0, "take 1 when " + Doc.times("(", 7) + "not 1=1 or (not 1=1", 3, 31);
        good(0, "take 1 when " + Doc.times("not ", 8) + "1=1;take 1 when " + Doc.times("not ", 8) + "1=1;", 2);
        good(4, "line 1 when " + Doc.times("not ", 8) + "1=1;", 1);
        bad(4, "line 1 when " + Doc.times("not ", 9) + "1=1;", 3, 44);
        bad(4, "line 1 when " + Doc.times("(", 9), 3, 20);
        so(Doc.times("not ", 8) + "1=1");
        notSo(Doc.times("not ", 7) + "1=1");
        so(Doc.times("(1=2 or 1=1 and ", 8) + "1=1" + Doc.times(")", 8));
        notSo(Doc.times("(1=2 or 1=1 and ", 8) + "1=2" + Doc.times(")", 8));
    }
}

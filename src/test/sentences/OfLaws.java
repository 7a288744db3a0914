/** Promises 6 and 7: the tape, the law as a text, and its faults. */
final class OfLaws {
    /** At step 0: places 0, 90 and 270, rings 2, 5 and 7. */
    private static final String SKY = "sky 400/2 401/5 403/7";
    private static final String ONES = "drqhab0123456789", OPENS = "(!-", BETWEEN = "|&<=>+-*/%?;";

    static void tell(Told t) {
        tape(t);
        becomesLaw(t);
        lines(t);
        levels(t);
        ones(t);
        bytes(t);
        names(t);
        open(t);
        numbers(t);
        signs(t);
        counts(t);
        faults(t);
        without(t);
    }

    /** The text is one, and by it the first two see each other at step 0, or not. */
    private static void sees(Told t, boolean seen, String... texts) {
        for (String text : texts) t.run(SKY + "; law \"" + text + "\" -> 1; sees(1, 0) -> " + (seen ? 1 : 0));
    }

    private static void good(Told t, String... texts) {
        for (String text : texts) t.run("law \"" + text + "\" -> 1; count(3) -> 0");
    }

    private static void fault(Told t, int at, String... texts) {
        for (String text : texts) t.run("law \"" + text + "\" -> " + (-100 - at) + "; count(3) -> 0");
    }

    private static void tape(Told t) {
        t.says(6, "A byte (0 .. 255) comes to THE TAPE: how many it has. BAD, FULL (120).");
        t.each("", "feed(0) -> 1", "feed(255) -> 1", "feed(100) -> 1", "feed(-1) -> BAD", "feed(256) -> BAD", "feed(MIN) -> BAD", "feed(MAX) -> BAD");
        t.run("feed(49) -> 1; feed(50) -> 2; feed(300) -> BAD; feed(51) -> 3; count(3) -> 3; law() -> 1");
        t.run("feed(49) *119; feed(49) -> 120; count(3) -> 120");
        t.run("feed(49) *120; feed(49) -> FULL; count(3) -> 120; feed(49) -> FULL; law() -> -104");
        t.run("feed(49) *120; feed(-1) -> BAD; feed(256) -> BAD");
        t.run("feed(49) *120; law() -> -104; feed(49) -> 1; law() -> 1");
        t.run("feed(49) *3; law() -> 1; feed(49) -> 1");
    }

    private static void becomesLaw(Told t) {
        t.says(7, "THE TAPE becomes THE LAW: 1; -100 less its FAULT; THE TAPE is empty then.");
        t.run(SKY + "; tape \"d=180\"; sees(12, 0) -> 0; law() -> 1; count(3) -> 0; sees(12, 0) -> 1; sees(1, 0) -> 0");
        t.run("law() -> -100; count(3) -> 0");
        t.run("law \"1\"; law() -> -100; count(3) -> 0");
        t.run("law \"1+\" -> -102; count(3) -> 0; law \"1\" -> 1; count(3) -> 0");
        t.run(SKY + "; law \"d=180\"; law \"d=90+\" -> -105; sees(12, 0) -> 1; sees(1, 0) -> 0");
        t.run(SKY + "; law \"0+\" -> -102; sees(1, 0) -> 1; sees(12, 0) -> 0");
        t.run(SKY + "; law \"d=180\"; law \"d=90\"; sees(12, 0) -> 0; sees(1, 0) -> 1");
        t.run(SKY + "; law \"d=180\"; law() -> -100; sees(12, 0) -> 1");
        t.says(7, "THE LAW is a TEXT by THE TAPE (at most 120 bytes):");
        // 119 bytes: one more ends a number, or wants one.
        StringBuilder text = new StringBuilder("1");
        while (text.length() + 2 <= 119) text.append("+0");
        t.run(SKY + "; law \"" + text + "\" -> 1; sees(1, 0) -> 1; sees(12, 0) -> 1");
        t.run(SKY + "; tape \"" + text + "\"; feed(48) -> 120; law() -> 1; sees(1, 0) -> 1");
        t.run("tape \"" + text + "\"; feed(43) -> 120; law() -> -220");
        t.run("feed(40) *6; feed(49) -> 7; feed(43) *1; law() -> -108");
        StringBuilder many = new StringBuilder("0?0");
        while (many.length() + 4 <= 120) many.append(";0?0");
        t.run(SKY + "; law \"" + many + "\" -> 1; sees(1, 0) -> 0");
        t.run(SKY + "; law \"" + many.substring(0, 116) + "1?7\" -> 1; sees(1, 0) -> 1");
        StringBuilder short1 = new StringBuilder("1");
        while (short1.length() + 2 <= 120) short1.append(";1");
        t.run(SKY + "; law \"" + short1 + "\" -> 1; sees(1, 0) -> 1");
        StringBuilder short0 = new StringBuilder("0");
        while (short0.length() + 2 <= 120) short0.append(";1");
        t.run(SKY + "; law \"" + short0 + "\" -> 1; sees(1, 0) -> 0");
    }

    private static void lines(Told t) {
        t.says(7, "LINES, one or more, parted by ; .");
        good(t, "1", "1;2", "1;2;3", "1?2;3?4", "1;2?3", "1?2;3");
        fault(t, 0, "", ";", ";1");
        fault(t, 2, "1;", "1;;1", "1;;", "1; 2", "1;)", "1;?1");
        t.says(7, "LINE: E, or E ? E (what counts if the first is not 0).");
        good(t, "1?2", "d<1?d>1", "(1)?(2)", "!1?-1");
        fault(t, 0, "?", "?1", "?1;1");
        fault(t, 2, "1?", "1??1", "1?;1", "1?)");
        fault(t, 3, "1?2?3", "1?2?", "1?2)");
        fault(t, 2, "(1?2)", "(1;2)");
        sees(t, true, "1?1", "-1?1", "d?d", "2?3;0");
        sees(t, false, "1?0", "0?1", "0?1;0?1", "-1?0;1");
    }

    private static void levels(Told t) {
        t.says(7, "E = A { | A }.");
        good(t, "1|2", "1|2|3|4|5|6|7|8|9");
        fault(t, 0, "|1", "|");
        fault(t, 2, "1|", "1||2", "1|&2", "1|)");
        t.says(7, "A = B { & B }.");
        good(t, "1&2", "1&2&3&4&5&6&7&8&9", "1&2|3&4");
        fault(t, 0, "&1", "&");
        fault(t, 2, "1&", "1&&2", "1&|2", "1&)");
        sees(t, true, "1|0&0", "0&0|1");
        t.says(7, "B = S, or S < S, S = S, S > S.");
        good(t, "1<2", "1=2", "1>2", "(1<2)<3", "1<(2<3)", "1<2&3<4", "1<2|3<4", "1<2;3<4", "1<2?3<4", "(1<2)=(2>1)");
        fault(t, 0, "<1", "=1", ">1");
        fault(t, 2, "1<", "1=", "1>", "1<<2", "1<=2", "1>=2", "1=<2", "1==2");
        fault(t, 3, "1<2<3", "1<2=3", "1<2>3", "1=2<3", "1=2=3", "1=2>3", "1>2<3", "1>2=3", "1>2>3");
        fault(t, 4, "(1<2<3)", "(1=2=3)", "(1>2>3)");
        fault(t, 5, "1<2+3<4", "1|2<3<4", "1&2<3>4");
        sees(t, true, "2<3&1", "1&2<3", "(1<2)<2", "(3=3)=1");
        sees(t, false, "3<2", "2<2", "2>2", "2>3", "2=3", "1<(2<1)");
        t.says(7, "S = P { + P, - P }.");
        good(t, "1+2", "1-2", "1+2-3+4-5", "1--2", "1+-2", "1-!2", "1+2<3+4");
        fault(t, 0, "+1", "+");
        fault(t, 2, "1+", "1-", "1++2", "1-+2", "1+*2", "1+)");
        sees(t, true, "10-3-2=5", "7-4+1=4", "7+4-1=10", "(1+1=3)=0", "3=2+1", "3>1+1", "1+1<3");
        t.says(7, "P = O { * O, / O, % O }.");
        good(t, "1*2", "1/2", "1%2", "1*2/3%4", "1*-2", "1/!2", "1%(2)");
        fault(t, 0, "*1", "/1", "%1");
        fault(t, 2, "1*", "1/", "1%", "1**2", "1//2", "1%%2", "1*+2", "1*)");
        sees(t, true, "1+2*3=7", "2*3+1=7", "(1+2)*3=9", "100/10/5=2", "2*7%4=2", "9%5*2=8", "9/2*2=8", "20-8/4=18", "20-9%4=19", "7%4+1=4");
    }

    private static void ones(Told t) {
        t.says(7, "O = a number (1 to 4 digits), a NAME, ! O, - O, ( E ).");
        good(t, "0", "9", "10", "99", "999", "9999", "0000", "0001", "d", "!1", "-1", "(1)", "!d", "-d", "(d)", "(1|2)", "(1&2<3+4*5)", "!-(!1)");
        fault(t, 4, "12345", "00000", "99990", "1234d");
        fault(t, 6, "1+12345");
        fault(t, 1, "!", "-", "(", "()", "!)", "-)", "(|", "!+1", "-*1", "(;", "!?1", "1(", "1!");
        fault(t, 2, "(1", "(d", "!!", "!-", "((", "(!");
        t.says(7, "No blanks.");
        fault(t, 0, " ", " 1");
        fault(t, 1, "1 ", "1 +1", "d <1", "1 ;1");
        fault(t, 2, "1+ 1", "1; 1", "1? 1", "1< 2");
    }

    /** Each byte by itself, and each behind an O. */
    private static void bytes(Told t) {
        t.says(7, "FAULT: the place (from 0) of the first byte with which no TEXT goes on; the length, if it ends too early.");
        for (int b = 0; b < 256; b++) {
            char c = (char) b;
            int alone = ONES.indexOf(c) >= 0 ? 1 : OPENS.indexOf(c) >= 0 ? -101 : -100;
            t.run("feed(" + b + ") -> 1; law() -> " + alone);
            int behindName = BETWEEN.indexOf(c) >= 0 ? -102 : -101;
            t.run("feed(100); feed(" + b + ") -> 2; law() -> " + behindName);
            int behindNumber = c >= '0' && c <= '9' ? 1 : behindName;
            t.run("feed(55); feed(" + b + ") -> 2; law() -> " + behindNumber);
            int inside = c == ')' ? 1 : BETWEEN.indexOf(c) >= 0 && c != '?' && c != ';' ? -103 : -102;
            t.run("feed(40); feed(100); feed(" + b + ") -> 3; law() -> " + inside);
        }
    }

    private static void names(Told t) {
        t.says(7, "NAMES: d APART, r, q RINGS of the lesser and of the greater number of the two, h HIDE, a, b PLACES of these.");
        sees(t, true, "d=90", "r=2", "q=5", "h=30", "a=0", "b=90");
        t.run(SKY + "; law \"r=5&q=7&a=90&b=270&d=180\"; sees(12, 0) -> 1; sees(21, 0) -> 1; sees(1, 0) -> 0");
        t.run(SKY + "; law \"a=0&b=90\"; sees(1, 0) -> 1; sees(10, 0) -> 1; sees(1, 1) -> 0; sees(1, 4) -> 1");
        t.run(SKY + "; law \"r<q\"; sees(1, 0) -> 1; sees(10, 0) -> 1; mend(1, 2, 1); sees(1, 0) -> 0; sees(10, 0) -> 0; undo(); sees(1, 0) -> 1");
        t.run(SKY + "; law \"h=180\"; sees(1, 0) -> 0; mend(0, 3, 180); sees(1, 0) -> 1; mend(0, 3, 0); sees(1, 0) -> 0");
        t.run(SKY + "; law \"h\"; sees(1, 0) -> 1; mend(0, 3, 0); sees(1, 0) -> 0");
        t.run(SKY + "; law \"a=90\"; sees(1, 0) -> 0; mend(0, 1, 1); sees(1, 0) -> 1; undo(); sees(1, 0) -> 0; redo(); sees(1, 0) -> 1");
        t.run(SKY + "; law \"b=0\"; sees(1, 0) -> 0; mend(1, 0, 1); sees(1, 0) -> 1; undo(); sees(1, 0) -> 0");
        t.says(7, "APART of two: the lesser way round between their PLACES (0 .. 180).");
        // One stands at 0, the other one goes round by 30.
        int[] apart = {0, 30, 60, 90, 120, 150, 180, 150, 120, 90, 60, 30, 0};
        for (int k = 0; k < 13; k++) t.run("sky 100/1 1200/1; law \"d=" + apart[k] + "\"; sees(1, " + k + ") -> 1; sees(10, " + k + ") -> 1");
        for (int k = 0; k < 13; k++) t.run("sky 1200/1 100/1; law \"d=" + apart[k] + "\"; sees(1, " + k + ") -> 1");
        // At 327 and 51: 84 over 0.
        t.run("sky 1110/1 701/1; law \"d=84\"; sees(1, 0) -> 1");
    }

    private static void open(Told t) {
        t.says(7, "At most 6 of ( ! - ahead of an O are open at once.");
        good(t, "((((((1))))))", "!!!!!!1", "------1", "(!-(!-1))", "!(!(!(1)))", "-(-(-(1)))", "((((((1))))))+((((((1))))))", "!!!!!!1&!!!!!!1", "------1-------1",
            "!1|!1|!1|!1|!1|!1|!1|!1", "-1-1-1-1-1-1-1-1-1", "(1)+(1)+(1)+(1)+(1)+(1)+(1)", "(((((!1+!1)))))", "(((((-1--1)))))", "(((((1)+(1)))))",
            "(1-1-1-1-1-1-1-1)", "((((((1-1-1-1-1-1-1))))))", "(1+!!!!!1)", "((((((1)))))+!1)", "!!!!!(1-1)", "!!!!!!1;!!!!!!1", "!!!!!!1?!!!!!!1");
        fault(t, 6, "(((((((1)))))))", "!!!!!!!1", "-------1", "(((((((", "!!!!!!!", "(!-(!-(1)))", "(!-(!-!1))", "!(!(!(!1)))", "-(-(-(-1)))", "((((((!1))))))", "((((((-1))))))",
            "!!!!!!(1)", "------(1)", "(((((((((((");
        fault(t, 8, "(1+!!!!!!1)", "(1-------1)", "1+!!!!!!!1", "1--------1");
        fault(t, 14, "((((((1))))))+)");
        fault(t, 20, "((((((1))))))+(((((((1)))))))");
    }

    private static void numbers(Told t) {
        t.says(7, "Ints that wrap;");
        int product = 9999 * 9999 * 9999;
        sees(t, true, "9999*9999*9999%9973=" + (product % 9973 < 0 ? "-" + -(product % 9973) : "" + product % 9973));
        // 99980001 * 21 is 2099580021, and 99980001 more is above the ints; 8192 * 8192 * 32 is the least int.
        sees(t, true, "9999*9999*21>0", "9999*9999*21+9999*9999<0", "0-9999*9999*21-9999*9999>0", "9999*9999*22<0");
        sees(t, true, "8192*8192*32<0", "-(8192*8192*32)<0", "-(8192*8192*32)=8192*8192*32", "8192*8192*32-1>0", "8192*8192*32/-1=8192*8192*32", "8192*8192*32%-1=0", "8192*8192*64=0");
        sees(t, false, "8192*8192*64");
        t.says(7, "/ and % toward 0, by 0 they give 0;");
        sees(t, true, "7/2=3", "-7/2=-3", "7/-2=-3", "-7/-2=3", "7%2=1", "-7%2=-1", "7%-2=1", "-7%-2=-1", "1/2=0", "-1/2=0", "0/5=0", "0%5=0");
        sees(t, true, "5/0=0", "5%0=0", "0/0=0", "0%0=0", "-5/0=0", "-5%0=0", "d/(a-a)=0", "d%a=0", "1+5/0=1");
        sees(t, false, "5/0", "5%0", "0/0", "1/2");
    }

    private static void signs(Told t) {
        t.says(7, "| & < = > ! give 1, 0; all is worked out.");
        sees(t, true, "(2|0)=1", "(0|2)=1", "(2|4)=1", "(0|0)=0", "(-2|0)=1");
        sees(t, true, "(2&4)=1", "(2&0)=0", "(0&2)=0", "(0&0)=0", "(-1&-2)=1");
        sees(t, true, "(1<2)=1", "(2<2)=0", "(3<2)=0", "(2=2)=1", "(2=3)=0", "(3>2)=1", "(2>2)=0", "(1>2)=0", "(-3<-2)=1", "(-1<0)=1");
        sees(t, true, "!0=1", "!7=0", "!-7=0", "!!7=1", "!!0=0", "(1<2)+(3>2)=2", "--7=7", "-7+7=0", "-!0=-1", "(!0+1)=2", "-1+2=1", "-2*3=-6");
        sees(t, true, "1|5/0", "1|5%0", "!(0&5/0)", "5/0|1");
        sees(t, false, "0|0", "1&0", "0&1", "!7", "2<1", "0&5/0", "1-1");
    }

    private static void counts(Told t) {
        t.says(7, "The first LINE without a first E, or whose first E is not 0, counts; none: 0.");
        sees(t, true, "1;0", "1?1;0", "0?0;1", "0?0;0?0;1", "0?0;1?1;0", "0?1;0?1;d", "-1?1;0", "0?0;2", "1;1?0", "3?2;0;0");
        sees(t, false, "0;1", "1?0;1", "0?1", "0?1;0?1", "0?1;0", "0;1?1", "0?1;1?0;1", "d=90?0;1", "0?1;0?1;0?1");
        t.run(SKY + "; law \"r=2?d=90;d=180\"; sees(1, 0) -> 1; sees(2, 0) -> 1; sees(12, 0) -> 1; sees(12, 1) -> 1");
        t.says(7, "Not 0: the two SEE each other.");
        sees(t, true, "1", "2", "-1", "9999", "-9999", "d-89", "d-91", "8192*8192*32");
        sees(t, false, "0", "d-90", "-0", "0000");
    }

    private static void faults(Told t) {
        t.says(7, "the first byte with which no TEXT goes on;");
        fault(t, 0, ")", "x", "D", "A", "c", "=", "?", "%", "~", "[1]", "'");
        fault(t, 1, "dd", "d1", "1d", "dr", "1)", "d)", "1x", "1.5", "1,2", "1(2)", "1!2", "d!", "d(1)", "1D");
        fault(t, 3, "(1))", "(1)1", "(1)d", "(1)(2)", "(1)!1", "1+2)", "!!1)", "1<2)", "(1+)");
        fault(t, 4, "!(1))");
        t.says(7, "the length, if it ends too early.");
        fault(t, 3, "1+(", "1|!", "(1|", "((1", "!!!", "1;-");
        fault(t, 4, "((1)", "1<2&", "1?2;", "1;2?", "d+h<");
        fault(t, 5, "(1<2&", "(((((");
        fault(t, 6, "((((((", "!!!!!!", "------");
        fault(t, 7, "((((((1");
    }

    private static void without(Told t) {
        t.says(9, "Without a text: if d and h together are no more than 180.");
        String sky = "sky 1200/1 100/1";
        t.run(sky + "; sees(1, 5) -> 1; sees(1, 6) -> 0; sees(1, 7) -> 1; sees(1, 0) -> 1");
        t.run(sky + "; mend(0, 3, 31); sees(1, 5) -> 0; sees(1, 4) -> 1; sees(1, 7) -> 0; sees(1, 8) -> 1");
        t.run(sky + "; mend(0, 3, 29); sees(1, 5) -> 1; sees(1, 6) -> 0");
        t.run(sky + "; mend(0, 3, 0); sees(1, 6) -> 1");
        t.run(sky + "; mend(0, 3, 1); sees(1, 6) -> 0; sees(1, 5) -> 1");
        t.run(sky + "; mend(0, 3, 180); sees(1, 0) -> 1; sees(1, 1) -> 0; sees(1, 11) -> 0; sees(1, 12) -> 1");
        t.run(sky + "; mend(0, 3, 150); sees(1, 1) -> 1; sees(1, 2) -> 0");
        t.run(sky + "; mend(0, 3, 151); sees(1, 1) -> 0; sees(1, 0) -> 1");
    }
}

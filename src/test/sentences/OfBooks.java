/** Promises 24 to 26: books of sights. */
final class OfBooks {
    /** The first goes round by 30 a step, the second stands; they see each other at 30 APART alone: steps 1 and 11 of 12. */
    private static final String SKY = "sky 1200/1 100/2; law \"d=30\"";

    static void tell(Told t) {
        refusals(t);
        judge(t);
        judgeOfNone(t);
        stepped(t);
        steppedBeyond(t);
        whose(t);
    }

    private static void refusals(Told t) {
        String[] calls = {"judge(#)", "stepped(#, 0, 0)", "stepped(#, 0, 1)", "whose(#)"};
        String[] words = {"JUDGED. BAD, -11, -12 (no ROW of shorts); NOT.", "STEPPED: how many (what 0), the first (1; NOT). BAD, -11, -12.",
            "STEPPED: how many (what 0), the first (1; NOT). BAD, -11, -12.", "WHOSE, as bits. BAD, -11, -12."};
        int[] promises = {24, 25, 25, 26};
        for (int i = 0; i < calls.length; i++) {
            t.says(promises[i], words[i]);
            for (String shelf : new String[] {"-1", "6", "MIN", "MAX"}) t.run(SKY + "; " + calls[i].replace("#", shelf) + " -> BAD");
            for (int shelf = 0; shelf < 6; shelf++) t.run(SKY + "; " + calls[i].replace("#", "" + shelf) + " -> -11");
            for (String sort : new String[] {"bytes", "ints", "longs", "booleans"}) {
                t.run(SKY + "; " + sort + " 0: 1 1 1; " + calls[i].replace("#", "0") + " -> -12");
                t.run(SKY + "; " + sort + " 0:; " + calls[i].replace("#", "0") + " -> -12");
            }
            t.run(SKY + "; body(0); keep(5, 0); " + calls[i].replace("#", "5") + " -> -12");
            t.run(SKY + "; shorts 5: 1 1 1; keep(5, -1); " + calls[i].replace("#", "5") + " -> -11");
        }
    }

    private static void judge(Told t) {
        t.says(24, "A BOOK: a ROW of shorts on a SHELF, by threes a step, 10 times the one world and the other one, 1 or 0: whether they saw each other:");
        t.each(SKY, "shorts 0: 1 1 1; judge(0) -> NOT", "shorts 0: 1 10 1; judge(0) -> NOT", "shorts 0: 0 1 0; judge(0) -> NOT", "shorts 0: 11 10 1; judge(0) -> NOT", "shorts 5: 12 1 0; judge(5) -> NOT");
        t.each(SKY, "shorts 0: 1 1 0; judge(0) -> 0", "shorts 0: 0 1 1; judge(0) -> 0", "shorts 0: 32767 1 0; judge(0) -> NOT", "shorts 0: 32761 1 1; judge(0) -> NOT", "shorts 0: 32760 1 1; judge(0) -> 0");
        t.says(24, "JUDGED: the first three that is not so (no such step or worlds, no 0 or 1; a three's end that lacks, too); NOT.");
        t.run("shorts 0:; judge(0) -> NOT");
        t.run(SKY + "; shorts 0:; judge(0) -> NOT");
        t.run(SKY + "; shorts 0: 1 1 1 2 1 0 3 1 1 4 1 1; judge(0) -> 2");
        t.run(SKY + "; shorts 0: 1 1 1 2 1 0 3 1 0 4 1 1; judge(0) -> 3");
        t.run(SKY + "; shorts 0: 1 1 0 2 1 1; judge(0) -> 0");
        StringBuilder full = new StringBuilder("shorts 0:");
        for (int k = 0; k < 20; k++) full.append(" ").append(k).append(" 1 ").append(k % 12 == 1 || k % 12 == 11 ? 1 : 0);
        t.run(SKY + "; " + full + "; judge(0) -> NOT; put(0, 59, 1); judge(0) -> 19; put(0, 2, 1); judge(0) -> 0");
        t.run(SKY + "; shorts 0: 1 1 1; judge(0) -> NOT; mend(0, 1, 1); judge(0) -> 0; undo(); judge(0) -> NOT; law \"0\"; judge(0) -> 0");
    }

    private static void judgeOfNone(Told t) {
        t.says(24, "(no such step or worlds, no 0 or 1; a three's end that lacks, too)");
        String[] steps = {"-1", "-32768", "32768"};
        for (String step : steps) t.run(SKY + "; shorts 0: 1 1 1 " + step + " 1 0; judge(0) -> 1");
        String[] worlds = {"0", "11", "2", "20", "12", "21", "-1", "-10", "100", "101", "32767", "-32768"};
        for (String pq : worlds) {
            t.run(SKY + "; shorts 0: 1 1 1 2 " + pq + " 0; judge(0) -> 1");
            t.run(SKY + "; shorts 0: 1 " + pq + " 1; judge(0) -> 0");
        }
        for (String saw : new String[] {"2", "-1", "3", "256", "32767", "-32768"}) {
            t.run(SKY + "; shorts 0: 1 1 1 1 1 " + saw + "; judge(0) -> 1");
            t.run(SKY + "; shorts 0: 0 1 " + saw + "; judge(0) -> 0");
        }
        t.each(SKY, "shorts 0: 1; judge(0) -> 0", "shorts 0: 1 1; judge(0) -> 0", "shorts 0: 1 1 1 0; judge(0) -> 1", "shorts 0: 1 1 1 0 1; judge(0) -> 1", "shorts 0: 1 1 0 0 1; judge(0) -> 0");
        t.each(SKY, "shorts 0: 1 1 1 1 1 1 0; judge(0) -> 2", "shorts 0: 1 1 1 1 1 1 0 1; judge(0) -> 2", "shorts 0: 1 1 1 1 1 1 1 1 1 0; judge(0) -> 3");
        t.run(SKY + "; row(0, 1, 59); judge(0) -> 0; row(0, 1, 58); judge(0) -> 0");
        StringBuilder lacks = new StringBuilder("shorts 0:");
        for (int k = 0; k < 19; k++) lacks.append(" 1 1 1");
        t.each(SKY, lacks + "; judge(0) -> NOT", lacks + " 1; judge(0) -> 19", lacks + " 1 1; judge(0) -> 19", lacks + " 1 1 1; judge(0) -> NOT");
        t.run("shorts 0: 0 1 0; judge(0) -> 0");
        t.run("sky 100/1; shorts 0: 0 1 0; judge(0) -> 0; world(100, 2); judge(0) -> 0; law \"0\"; judge(0) -> NOT");
        t.run("sky 100/1*6; shorts 0: 0 45 1 0 54 1 0 5 1 0 50 1; judge(0) -> NOT; shorts 1: 0 56 0; judge(1) -> 0");
    }

    private static void stepped(Told t) {
        t.says(25, "STEPPED: how many (what 0), the first (1; NOT). BAD, -11, -12.");
        t.run(SKY + "; shorts 0: 0 1 1; stepped(0, 0, 0) -> 2; stepped(0, 0, 1) -> 1; of(0, 1) -> 0; judge(0) -> 0");
        t.each(SKY + "; shorts 0: 0 1 1", "stepped(0, 2, 0) -> BAD", "stepped(0, -1, 0) -> BAD", "stepped(0, 6, 1) -> BAD", "stepped(0, MIN, 0) -> BAD", "stepped(0, MAX, 0) -> BAD");
        t.each(SKY + "; shorts 0: 0 1 1", "stepped(0, 0, -1) -> BAD", "stepped(0, 0, 2) -> BAD", "stepped(0, 0, MIN) -> BAD", "stepped(0, 0, MAX) -> BAD");
        t.each(SKY, "stepped(0, 2, 0) -> BAD", "stepped(0, 0, 2) -> BAD", "ints 0: 1; stepped(0, 2, 0) -> BAD", "ints 0: 1; stepped(0, 0, 2) -> BAD");
        t.says(25, "STEPPED: all STARTS of one world by which the BOOK is so (others as they are): how many; the first; NOT.");
        t.run(SKY + "; shorts 0:; stepped(0, 0, 0) -> 12; stepped(0, 0, 1) -> 0; stepped(0, 1, 0) -> 1; stepped(0, 1, 1) -> 0");
        t.run(SKY + "; shorts 0: 0 1 1 1 1 0; stepped(0, 0, 0) -> 2; stepped(0, 0, 1) -> 1");
        t.run(SKY + "; shorts 0: 0 1 1 2 1 1; stepped(0, 0, 0) -> 1; stepped(0, 0, 1) -> 11");
        t.run(SKY + "; shorts 0: 0 1 1 1 1 1; stepped(0, 0, 0) -> 0; stepped(0, 0, 1) -> NOT");
        t.run(SKY + "; shorts 0: 0 1 1; stepped(0, 1, 0) -> 0; stepped(0, 1, 1) -> NOT");
        t.run(SKY + "; shorts 0: 0 1 0; stepped(0, 0, 0) -> 10; stepped(0, 0, 1) -> 0; stepped(0, 1, 0) -> 1");
        t.run(SKY + "; shorts 0: 0 1 1 0 1; stepped(0, 0, 0) -> 0; stepped(0, 0, 1) -> NOT");
        t.run("sky 1200/1 1201/2; law \"d=30\"; shorts 0: 0 1 1; stepped(0, 0, 0) -> 2; stepped(0, 0, 1) -> 0; stepped(0, 1, 1) -> 1; stepped(0, 1, 0) -> 2");
    }

    private static void steppedBeyond(Told t) {
        t.says(25, "(A START that is PERIOD or more stands, what is left counts.)");
        t.run("sky 1205/1 100/2; law \"a=90\"; mend(0, 0, 4); shorts 0: 0 1 1; judge(0) -> NOT; stepped(0, 0, 0) -> 1; stepped(0, 0, 1) -> 1; of(0, 1) -> 5; place(0, 0) -> 90");
        t.run("sky 1207/1 100/2; mend(0, 0, 3); shorts 0:; stepped(0, 0, 0) -> 3; stepped(0, 0, 1) -> 0; of(0, 1) -> 7");
    }

    private static void whose(Told t) {
        t.says(26, "WHOSE, as bits. BAD, -11, -12.");
        t.run("sky 1200/1 1200/2; law \"d=30\"; shorts 0: 0 1 1; whose(0) -> 3; of(0, 1) -> 0; of(1, 1) -> 0");
        t.says(26, "WHOSE: all worlds (bits) that have such a START unlike theirs.");
        t.run("shorts 0:; whose(0) -> 0");
        t.run("sky 1200/1 100/2; relay(1, 125, 0); shorts 0:; whose(0) -> 1");
        t.run("sky 100/1; shorts 0:; whose(0) -> 0");
        t.run("sky 200/1 100/1 300/1 100/1 1200/1 1211/1; shorts 0:; whose(0) -> 53");
        t.run("sky 1200/1*6; shorts 0:; whose(0) -> 63; shorts 0: 1; whose(0) -> 0");
        // The one world that a book names, and of the others those that it leaves free.
        t.run("sky 1200/1 100/2 1205/3; law \"r=1&q=2&a=30\"; shorts 0: 0 1 1; whose(0) -> 1");
        t.run("sky 1200/1 100/2 1205/3; law \"r=1&q=2&a=30\"; shorts 0: 1 1 1; whose(0) -> 4");
        t.run("sky 1200/1 100/2 1205/3; law \"r=1&q=2&a=30\"; shorts 0: 1 1 1 0 2 0; whose(0) -> 4");
        t.run("sky 1200/1 100/2 1205/3; law \"r=1&q=2&a=30\"; shorts 0: 1 1 1 2 1 1; whose(0) -> 0");
        t.run("sky 1200/1 100/2; law \"d=30\"; shorts 0: 1 1 1; whose(0) -> 1");
        t.run("sky 1200/1 100/2; law \"d=60\"; shorts 0: 2 1 1 4 1 0 6 1 0 10 1 1; whose(0) -> 0");
        t.says(26, "what is left counts.");
        t.run("sky 1205/1 100/1; mend(0, 0, 4); law \"a=90\"; shorts 0: 0 1 1; whose(0) -> 0; mend(0, 1, 0); whose(0) -> 1");
    }
}

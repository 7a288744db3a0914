/** Promises 9 to 17: who sees whom, and when. */
final class OfSights {
    /** The first goes round by 30 a step, the second stands at 0; a third one has a PERIOD of its own. */
    private static final String ROUND = "sky 1200/1 100/2", THREE = "sky 1200/1 100/2 700/3";
    /** World 0 sees 1 always, and 2 but at step 2 of 12; 1 and 2 never see each other. */
    private static final String EAR = "sky 1200/1 100/2 100/3; law \"r=1&q=2?1;r=1&q=3?!(a=60);0\"";

    static void tell(Told t) {
        pairs(t);
        eachPair(t);
        steps(t);
        sees(t);
        sights(t);
        blind(t);
        next(t);
        nextOfAll(t);
        all(t);
        joined(t);
        lasts(t);
        unheard(t);
        unheardByNone(t);
        beam(t);
        beamOfTwo(t);
    }

    /** All calls of two worlds, the pair as # and the rest as can be. */
    private static final String[] OF_TWO = {"sees(#, 0)", "sights(#, 0)", "blind(#)", "next(#, 0)", "lasts(#, 0)", "unheard(#, 2, 0)", "beam(#, 0)",
        "soonest(#, 0)", "way(#, 0, 0)", "hands(#, 0)", "waits(#, 0)", "relay(#, 11, 0)", "send(#)"};
    private static final int[] PROMISES_OF_TWO = {9, 10, 11, 12, 15, 16, 17, 18, 19, 20, 21, 22, 27};

    private static void pairs(Told t) {
        String[] wrong = {"0", "11", "22", "3", "13", "30", "31", "33", "100", "101", "1000", "-10", "-2", "-12", "MIN", "MAX"};
        for (int i = 0; i < OF_TWO.length; i++) {
            t.says(PROMISES_OF_TWO[i], "(pq: 10 times the one and the other, unlike)");
            for (String pq : wrong) t.run(THREE + "; " + OF_TWO[i].replace("#", pq) + " -> BAD");
            if (i != 3) t.run(THREE + "; " + OF_TWO[i].replace("#", "-1") + " -> BAD");
            t.run(OF_TWO[i].replace("#", "1") + " -> BAD");
            t.run("sky 100/1; " + OF_TWO[i].replace("#", "1") + " -> BAD");
            t.run("sky 100/1; " + OF_TWO[i].replace("#", "0") + " -> BAD");
            String six = "sky 100/1*6; " + OF_TWO[i].replace("unheard(#, 2", "unheard(#, 0");
            t.run(six.replace("#", "56") + " -> BAD");
            t.run(six.replace("#", "65") + " -> BAD");
            t.run(six.replace("#", "55") + " -> BAD");
        }
        t.says(23, "(pq: 10 times the one and the other, unlike)");
        for (String pq : wrong) t.run(THREE + "; safe(" + pq + ", 0, 10) -> NONE");
        t.each("", "safe(1, 0, 10) -> NONE", "safe(-1, 0, 10) -> NONE");
        t.says(9, "(pq: 10 times the one and the other, unlike)");
        t.run("sky 100/1*6; sees(45, 0) -> 1; sees(54, 0) -> 1; sees(5, 0) -> 1; sees(50, 0) -> 1; sees(1, 0) -> 1");
        t.says(27, "(pq: 10 times the one and the other, unlike)");
        t.run("sky 100/1*6; send(5) -> 0; of(0, 10) -> 0; of(0, 11) -> 5; send(50) -> 1; of(1, 10) -> 5; of(1, 11) -> 0");
    }

    /** Of six worlds two see each other, and no others: each two, told both ways. */
    private static void eachPair(Told t) {
        String sky = "sky 100/1 100/2 100/3 100/4 100/5 100/6; mend(0, 4, 6); ";
        String[] told = {"sees(#, 4) -> 1", "sights(#, 0) -> 1", "blind(#) -> 0", "next(#, 4) -> 4", "lasts(#, 4) -> NOT", "beam(#, 4) -> 0", "soonest(#, 4) -> 1", "way(#, 4, 1) -> @", "hands(#, 4) -> 1", "waits(#, 0) -> 1", "safe(#, 4, 11) -> 2"};
        String[] else0 = {"sees(#, 4) -> 0", "sights(#, 0) -> 0", "blind(#) -> NOT", "next(#, 4) -> NOT", "lasts(#, 4) -> 0", "beam(#, 4) -> NOT", "soonest(#, 4) -> NOT", "way(#, 4, 0) -> NOT", "hands(#, 4) -> NOT", "waits(#, 0) -> NOT", "safe(#, 4, 11) -> NONE"};
        int[] promises = {9, 10, 11, 12, 15, 17, 18, 19, 20, 21, 23};
        for (int i = 0; i < promises.length; i++) {
            t.says(promises[i], "(pq: 10 times the one and the other, unlike)");
            for (int p = 0; p < 6; p++) {
                for (int q = p + 1; q < 6; q++) {
                    String law = sky + "law \"r=" + (p + 1) + "&q=" + (q + 1) + "\"";
                    t.run(law + "; " + told[i].replace("#", "" + p + q).replace("@", "" + q) + "; " + told[i].replace("#", "" + q + p).replace("@", "" + p));
                    int other = (q + 1) % 6 == p ? (q + 2) % 6 : (q + 1) % 6;
                    t.each(law, else0[i].replace("#", "" + p + other), else0[i].replace("#", "" + other + p), else0[i].replace("#", "" + q + other), else0[i].replace("#", "" + other + q));
                }
            }
        }
        for (int p = 0; p < 6; p++) {
            for (int q = p + 1; q < 6; q++) {
                String law = sky + "law \"r=" + (p + 1) + "&q=" + (q + 1) + "\"";
                int third = p == 0 ? q == 1 ? 2 : 1 : 0;
                t.says(16, "UNHEARD by a third (all unlike). BAD; NOT.");
                t.run(law + "; unheard(" + p + q + ", " + third + ", 4) -> 4; unheard(" + q + p + ", " + third + ", 4) -> 4; unheard(" + p + third + ", " + q + ", 4) -> NOT; unheard(" + third + q + ", " + p + ", 4) -> NOT");
                t.says(14, "JOINED, as bits. BAD.");
                t.run(law + "; joined(" + p + ", 4) -> " + (1 << p | 1 << q) + "; joined(" + q + ", 4) -> " + (1 << p | 1 << q) + "; joined(" + third + ", 4) -> " + (1 << third));
                t.says(28, "it is handed on as by the WAY from NOW");
                t.run(law + "; mend(0, 4, 0); send(" + p + q + "); send(" + q + p + "); send(" + p + third + "); go(1, 1) -> 2; of(0, 12) -> " + q + "; of(1, 12) -> " + p + "; of(2, 12) -> " + p + "; of(" + p + ", 4) -> 1; of(" + q + ", 4) -> 1");
                t.says(22, "RELAY: one more world (number 6) of a told PERIOD and RING:");
                String relayed = sky + "law \"q=9?r=" + (p + 1) + "|r=" + (q + 1) + ";0\"";
                t.run(relayed + "; relay(" + p + q + ", 19, 1) -> 2; relay(" + third + q + ", 19, 0) -> NOT; relay(" + p + q + ", 19, 0) -> 0; relay(" + p + third + ", 19, 1) -> NOT; relay(" + q + p + ", 19, 1) -> 2; relay(" + third + p + ", 19, 0) -> NOT");
                t.says(24, "10 times the one world and the other one,");
                t.run(law + "; shorts 0: 4 " + p + q + " 1 4 " + q + p + " 1 4 " + p + third + " 0 4 " + third + q + " 0; judge(0) -> NOT; put(0, 2, 0); judge(0) -> 0");
            }
        }
    }

    private static void steps(Told t) {
        String[] calls = {"place(1, #)", "sees(1, #)", "next(1, #)", "next(-1, #)", "joined(1, #)", "lasts(1, #)", "unheard(1, 2, #)", "beam(1, #)",
            "soonest(1, #)", "way(1, #, 0)", "hands(1, #)"};
        int[] promises = {8, 9, 12, 12, 14, 15, 16, 17, 18, 19, 20};
        for (int i = 0; i < calls.length; i++) {
            t.says(promises[i], "at a step t (0 .. 999999)");
            for (String at : new String[] {"-1", "1000000", "MIN", "MAX"}) t.run("sky 100/1*3; " + calls[i].replace("#", at) + " -> BAD");
        }
        t.says(23, "at a step t (0 .. 999999)");
        t.each("sky 100/1*2", "safe(1, -1, 10) -> NONE", "safe(1, 1000000, 10) -> NONE", "safe(1, MIN, 10) -> NONE", "safe(1, MAX, 10) -> NONE");
        t.run("sky 100/1*2; safe(1, 0, 10) -> 1; safe(1, 999999, 10) -> 1");
    }

    private static void sees(Told t) {
        t.says(9, "Two SEE each other at a step: 1, 0. BAD.");
        t.run(ROUND + "; sees(1, 0) -> 1; sees(10, 0) -> 1; sees(1, 6) -> 0; sees(10, 6) -> 0; sees(1, 12) -> 1; sees(1, 18) -> 0");
        // 999999 is 3 more than a number of rounds.
        t.run(ROUND + "; sees(1, 999999) -> 1; law \"a=90\"; sees(1, 999999) -> 1; sees(1, 999998) -> 0; sees(1, 3) -> 1");
    }

    private static void sights(Told t) {
        t.says(10, "SIGHTS of two: part 0 above, 1 below the line. BAD.");
        t.run(ROUND + "; sights(1, 0) -> 11; sights(1, 1) -> 12; sights(10, 0) -> 11; sights(10, 1) -> 12");
        t.each(ROUND, "sights(1, -1) -> BAD", "sights(1, 2) -> BAD", "sights(1, MIN) -> BAD", "sights(1, MAX) -> BAD", "sights(11, 2) -> BAD");
        t.says(10, "SIGHTS of two in a ROUND of theirs: in how many steps they SEE each other (a fraction in lowest terms).");
        int[][] seen = {{0, 1, 1}, {30, 11, 12}, {60, 3, 4}, {90, 7, 12}, {120, 5, 12}, {150, 1, 4}, {180, 1, 12}};
        for (int[] s : seen) t.run(THREE + "; mend(0, 3, " + s[0] + "); sights(1, 0) -> " + s[1] + "; sights(1, 1) -> " + s[2]);
        t.run(THREE + "; law \"0\"; sights(1, 0) -> 0; sights(1, 1) -> 1");
        t.run(THREE + "; law \"1\"; sights(1, 0) -> 1; sights(1, 1) -> 1");
        t.run(THREE + "; law \"a=0\"; sights(1, 0) -> 1; sights(1, 1) -> 12; sights(2, 1) -> 12; sights(12, 0) -> 1; sights(12, 1) -> 1");
        t.run("sky 600/1 400/1; law \"a=0&b=0\"; sights(1, 0) -> 1; sights(1, 1) -> 12");
        t.run("sky 600/1 400/1; law \"a=0\"; sights(1, 0) -> 1; sights(1, 1) -> 6");
        t.says(10, "ROUND of two likewise.");
        t.run("sky 600/1 400/1 700/1; law \"a=0&b=0\"; sights(1, 1) -> 12; sights(2, 1) -> 42; sights(12, 1) -> 28; of(0, 23) -> 84");
        t.run("sky 1200/1 1100/1; law \"a=0&b=0\"; sights(1, 0) -> 1; sights(1, 1) -> 132");
        t.run("sky 600/1 600/1; law \"a=0\"; sights(1, 1) -> 6; mend(0, 1, 3); sights(1, 1) -> 6; mend(1, 0, 5); sights(1, 1) -> 6; law \"a=0&b=0\"; sights(1, 1) -> 30");
    }

    private static void blind(Told t) {
        t.says(11, "BLIND. BAD; NOT.");
        t.run(THREE + "; blind(1) -> 1; blind(10) -> 1");
        t.says(11, "BLIND: the greatest number of steps in a row, round and round, in which they don't; NOT: always.");
        t.run(THREE + "; law \"0\"; blind(1) -> NOT; blind(10) -> NOT");
        t.run(THREE + "; law \"1\"; blind(1) -> 0");
        t.run("sky 100/1 100/1; blind(1) -> 0; law \"0\"; blind(1) -> NOT");
        // Steps 4 to 11 and, round, 0 and 1.
        t.run(THREE + "; law \"a=60|a=90\"; blind(1) -> 10");
        t.run(THREE + "; law \"a=0\"; blind(1) -> 11");
        t.run(THREE + "; law \"a=330\"; blind(1) -> 11");
        t.run(THREE + "; law \"a=150\"; blind(1) -> 11");
        t.run(THREE + "; law \"a=0|a=180\"; blind(1) -> 5");
        t.run(THREE + "; law \"a<180\"; blind(1) -> 6");
        t.run(THREE + "; law \"a>150\"; blind(1) -> 6");
        // Gaps of 2 (round, by steps 11 and 0) and of 3.
        t.run(THREE + "; law \"!(a=330|a=0|a=120|a=150|a=180)\"; blind(1) -> 3");
        t.run(THREE + "; law \"!(a=330|a=0|a=30|a=150|a=180)\"; blind(1) -> 3");
        t.run("sky 600/1 400/1 700/1; law \"a=0&b=0\"; blind(1) -> 11; blind(2) -> 41");
    }

    private static void next(Told t) {
        t.says(12, "NEXT of two (pq -1: all). BAD; NOT.");
        t.run(ROUND + "; next(1, 5) -> 5; next(10, 5) -> 5; next(1, 6) -> 7; next(10, 6) -> 7");
        t.each(ROUND, "next(-2, 0) -> BAD", "next(0, 0) -> BAD", "next(-1, -1) -> BAD", "next(-1, 1000000) -> BAD", "next(1, 1000000) -> BAD");
        t.says(12, "NEXT: the first step from t on at which two, or all two and two, SEE each other; NOT: never.");
        String once = THREE + "; law \"r=1&q=2?a=60;1\"";
        t.each(once, "next(1, 0) -> 2", "next(1, 1) -> 2", "next(1, 2) -> 2", "next(1, 3) -> 14", "next(1, 13) -> 14", "next(1, 14) -> 14", "next(1, 15) -> 26");
        t.each(once, "next(1, 999998) -> 999998", "next(1, 999999) -> 1000010", "next(10, 999999) -> 1000010");
        t.run(THREE + "; law \"0\"; next(1, 0) -> NOT; next(1, 999999) -> NOT; next(12, 5) -> NOT");
        t.run("sky 1200/1 1100/1; law \"a=0&b=0\"; next(1, 0) -> 0; next(1, 1) -> 132; next(1, 132) -> 132; next(1, 133) -> 264");
    }

    private static void nextOfAll(Told t) {
        t.says(12, "or all two and two, SEE each other;");
        t.each("", "next(-1, 0) -> 0", "next(-1, 5) -> 5", "next(-1, 999999) -> 999999");
        t.each("sky 504/1", "next(-1, 0) -> 0", "next(-1, 999999) -> 999999");
        t.run("sky 504/1; law \"0\"; next(-1, 7) -> 7");
        String all = "sky 300/1 400/2 500/3; law \"a=0&b=0\"";
        t.each(all, "next(-1, 0) -> 0", "next(-1, 1) -> 60", "next(-1, 60) -> 60", "next(-1, 61) -> 120", "next(1, 1) -> 12", "next(12, 1) -> 20", "next(2, 1) -> 15", "next(-1, 999999) -> 1000020");
        t.run("sky 300/1 400/2 500/3; law \"q=3?0;1\"; next(-1, 0) -> NOT; next(1, 0) -> 0");
        t.run("sky 300/1 400/2 500/3; law \"r=1?1;0\"; next(-1, 0) -> NOT");
        t.run("sky 1200/1 1100/1 1000/1 900/1 800/1 700/1; law \"a=0&b=0\"; next(-1, 0) -> 0; next(-1, 1) -> 27720");
    }

    private static void all(Told t) {
        t.says(13, "ALL.");
        t.run("sky 200/1 300/1 100/1; all() -> 3");
        t.says(13, "ALL: at how many steps of a ROUND all do.");
        t.each("", "all() -> 1", "world(100, 1) -> 0; all() -> 1", "world(500, 1) -> 0; all() -> 5", "law \"0\"; all() -> 1", "world(500, 1) -> 0; law \"0\"; all() -> 5");
        t.run("sky 200/1 300/1; all() -> 5; law \"0\"; all() -> 0; law \"1\"; all() -> 6");
        t.run("sky 300/1 400/2 500/3; law \"a=0&b=0\"; all() -> 1");
        t.run("sky 300/1 400/2 500/3; law \"q=3?0;1\"; all() -> 0");
        t.run("sky 300/1 400/2 500/3; law \"a=0\"; all() -> 5");
        t.run("sky 1200/1 1100/1 1000/1 900/1 800/1 700/1; law \"1\"; all() -> 27720");
    }

    private static void joined(Told t) {
        t.says(14, "JOINED, as bits. BAD.");
        t.run("sky 100/1*3; joined(0, 0) -> 7; joined(2, 0) -> 7");
        t.each("sky 100/1*3", "joined(3, 0) -> BAD", "joined(-1, 0) -> BAD", "joined(6, 0) -> BAD", "joined(MIN, 0) -> BAD", "joined(MAX, 0) -> BAD");
        t.says(14, "JOINED at a step: WORLDS (bits) to which one comes by sights of that step, itself too.");
        t.run("sky 100/1; joined(0, 0) -> 1; law \"0\"; joined(0, 999999) -> 1");
        t.run("sky 100/1*6; joined(5, 0) -> 63; law \"0\"; joined(5, 0) -> 32; joined(0, 0) -> 1; joined(3, 0) -> 8");
        String chain = "sky 100/1 100/2 100/3 100/4 100/5 100/6; law \"q-r=1\"";
        for (int w = 0; w < 6; w++) t.run(chain + "; joined(" + w + ", 0) -> 63");
        // Against the numbers: 5 with 1, 1 with 4, 4 with 0; 2 with 3.
        String mixed = "sky 100/1 100/2 100/7 100/8 100/3 100/5; law \"r=2&q=5|r=2&q=3|r=1&q=3|r=7&q=8\"";
        t.run(mixed + "; joined(5, 0) -> 51; joined(0, 0) -> 51; joined(1, 0) -> 51; joined(4, 0) -> 51; joined(2, 0) -> 12; joined(3, 0) -> 12");
        String turns = "sky 200/1 100/2 100/3; law \"r=1&q=2?a=0;r=2&q=3\"";
        t.run(turns + "; joined(0, 0) -> 7; joined(0, 1) -> 1; joined(1, 1) -> 6; joined(2, 0) -> 7; joined(2, 1) -> 6; joined(0, 2) -> 7; joined(0, 999999) -> 1; joined(0, 999998) -> 7");
    }

    private static void lasts(Told t) {
        t.says(15, "LASTS of two. BAD; NOT.");
        t.run("sky 200/1 100/2 100/3; law \"r=1&q=2?a=0;r=2&q=3\"; lasts(2, 0) -> 1; lasts(20, 0) -> 1; lasts(12, 0) -> NOT; lasts(2, 1) -> 0");
        t.says(15, "LASTS: for how many steps in a row from t on one is JOINED with another one (0: not at t); NOT: for ever.");
        String but = "sky 1200/1 100/2 700/3; law \"r=1&q=2?!(a=0);0\"";
        t.each(but, "lasts(1, 0) -> 0", "lasts(1, 1) -> 11", "lasts(1, 2) -> 10", "lasts(1, 11) -> 1", "lasts(1, 12) -> 0", "lasts(1, 13) -> 11", "lasts(10, 1) -> 11");
        t.each(but, "lasts(1, 999999) -> 9", "lasts(1, 999996) -> 0", "lasts(1, 999995) -> 1", "lasts(2, 0) -> 0");
        t.run("sky 100/1 100/1; lasts(1, 0) -> NOT; lasts(1, 999999) -> NOT; law \"0\"; lasts(1, 0) -> 0; lasts(1, 999999) -> 0");
        // 0 comes to 3 by 1 at even steps, by 2 at odd ones.
        t.run("sky 200/1 100/2 100/3 100/4; law \"r=1&q=2?a=0;r=1&q=3?a=180;r>1&q=4\"; lasts(3, 0) -> NOT; lasts(30, 1) -> NOT; lasts(1, 0) -> NOT; lasts(12, 3) -> NOT");
        t.run("sky 200/1 100/2 100/3 100/4; law \"r=1&q=2?a=0;r=1&q=3?0;r>1&q=4\"; lasts(3, 0) -> 1; lasts(1, 0) -> 1; lasts(12, 3) -> NOT");
        // The longest there is: apart once in a ROUND of all.
        t.run("sky 1200/1 1100/2; law \"!(a=0&b=0)\"; lasts(1, 1) -> 131; lasts(1, 0) -> 0; lasts(1, 131) -> 1");
        // 0 and 2 are joined by the other one's PERIOD: it is gone at its step 6 alone.
        t.run("sky 100/1 700/2 100/3; law \"r=1&q=2?!(b>300);r=2&q=3\"; lasts(2, 0) -> 6; lasts(2, 6) -> 0; lasts(2, 7) -> 6");
    }

    private static void unheard(Told t) {
        t.says(16, "UNHEARD by a third (all unlike). BAD; NOT.");
        t.run(EAR + "; unheard(1, 2, 0) -> 2; unheard(10, 2, 0) -> 2");
        t.each(EAR, "unheard(1, 0, 0) -> BAD", "unheard(1, 1, 0) -> BAD", "unheard(1, 3, 0) -> BAD", "unheard(1, -1, 0) -> BAD", "unheard(1, 6, 0) -> BAD", "unheard(1, MIN, 0) -> BAD",
            "unheard(1, MAX, 0) -> BAD", "unheard(21, 1, 0) -> BAD", "unheard(21, 2, 0) -> BAD", "unheard(11, 2, 0) -> BAD");
        t.run("sky 100/1*2; unheard(1, 2, 0) -> BAD; unheard(1, 0, 0) -> BAD");
        t.says(16, "UNHEARD: the first step from t on, in a ROUND's steps, at which two SEE each other and a third one SEES neither; NOT.");
        t.each(EAR, "unheard(1, 2, 1) -> 2", "unheard(1, 2, 2) -> 2", "unheard(1, 2, 3) -> 14", "unheard(1, 2, 14) -> 14", "unheard(1, 2, 15) -> 26", "unheard(1, 2, 999998) -> 999998", "unheard(1, 2, 999999) -> 1000010");
    }

    private static void unheardByNone(Told t) {
        t.says(16, "at which two SEE each other and a third one SEES neither; NOT.");
        t.run("sky 100/1*3; unheard(1, 2, 0) -> NOT; unheard(12, 0, 999999) -> NOT; law \"0\"; unheard(1, 2, 0) -> NOT");
        // The third one sees the one alone, the other one alone, and none.
        t.run("sky 100/1 100/2 100/3; law \"r=1\"; unheard(1, 2, 0) -> NOT; unheard(10, 2, 0) -> NOT; unheard(2, 1, 0) -> NOT; unheard(12, 0, 0) -> NOT");
        t.run("sky 100/1 100/2 100/3; law \"r=1&q=2\"; unheard(1, 2, 0) -> 0; unheard(1, 2, 999999) -> 999999; unheard(2, 1, 0) -> NOT; unheard(12, 0, 0) -> NOT");
        t.run("sky 100/1 100/2 100/3; law \"r=2|q=2\"; unheard(1, 2, 0) -> NOT; unheard(12, 0, 0) -> NOT");
        // They see each other at step 0 of 12 alone, the third one is away at step 1 of 11 alone.
        t.run("sky 1200/1 100/2 1100/3; law \"q=2?a=0;r=1?!(b=32);0\"; unheard(1, 2, 0) -> 12; unheard(1, 2, 12) -> 12; unheard(1, 2, 13) -> 144");
    }

    private static void beam(Told t) {
        t.says(17, "BEAM from the one to the other, as bits. BAD; NOT.");
        // At step 0 at 0, 60, 30, 330, 300, 180.
        String sky = "sky 1200/1 1202/1 1201/1 1211/1 1210/1 1206/1";
        t.each(sky, "beam(1, 0) -> 4", "beam(10, 0) -> 4", "beam(42, 0) -> 9", "beam(24, 0) -> 9", "beam(41, 0) -> 13", "beam(14, 0) -> 13");
        t.each(sky, "beam(5, 0) -> NOT", "beam(50, 0) -> NOT", "beam(1, 999999) -> 4");
        t.says(17, "BEAM from one to another one at a step: WORLDS (bits) whose PLACE lies strictly between theirs on the lesser way (on none, if they are 0 or 180 APART);");
        t.each(sky, "beam(2, 0) -> 0", "beam(3, 0) -> 0", "beam(34, 0) -> 0", "beam(43, 0) -> 0", "beam(32, 0) -> 1", "beam(23, 0) -> 1", "beam(45, 0) -> 0", "beam(15, 0) -> 0");
        t.run(sky + "; mend(0, 3, 0); beam(5, 0) -> 0; beam(50, 0) -> 0");
        t.run(sky + "; mend(2, 1, 0); beam(2, 0) -> 0; beam(20, 0) -> 0; beam(1, 0) -> 0; beam(21, 0) -> 0; beam(31, 0) -> 5");
        t.run(sky + "; mend(2, 1, 2); beam(1, 0) -> 0; beam(2, 0) -> 0; beam(10, 0) -> 0");
        t.run("sky 100/1*6; beam(1, 0) -> 0; beam(45, 7) -> 0");
        t.run("sky 100/1 100/1 1203/1 100/1 1202/1 1204/1; beam(45, 0) -> 4; beam(54, 0) -> 4; beam(34, 0) -> 0; beam(35, 0) -> 20; beam(53, 0) -> 20");
        t.run("sky 100/1 100/1; beam(1, 0) -> 0");
    }

    private static void beamOfTwo(Told t) {
        t.says(17, "NOT: they do not SEE each other.");
        t.run("sky 1200/1 1202/1 1201/1; law \"0\"; beam(1, 0) -> NOT; beam(2, 0) -> NOT");
        t.run("sky 1200/1 1202/1 1201/1; law \"q=1&d=60\"; beam(1, 0) -> 4; beam(2, 0) -> NOT; beam(12, 0) -> NOT");
        // By steps: one stands, one goes round; those between are told by the lesser way.
        t.run("sky 100/1 1200/1 400/1; law \"1\"; beam(1, 1) -> 0; beam(1, 2) -> 0; beam(1, 5) -> 4; beam(1, 6) -> 0; beam(1, 7) -> 4; beam(1, 4) -> 0; beam(2, 1) -> 2; beam(2, 3) -> 0; beam(2, 11) -> 2; beam(2, 9) -> 0");
    }
}

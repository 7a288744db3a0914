/** Promises 18 to 23: messages in thought. */
final class OfMessages {
    /** 0 sees 1 at steps 0, 12, ..; 1 sees 2 at 3, 15, ..; 0 sees 2 at 8, 20, .. */
    private static final String TURNS = "sky 1200/1 1200/2 1200/4; law \"r=1&q=2?a=0;r=2?a=90;r=1&q=4?a=240\"";
    /** Each sees the next one, at steps 0, 132, 264, .. alone: from 0 to 5 it takes 529 steps and the wait for the first hand. */
    private static final String CHAIN = "sky 1100/1 1200/2 1100/3 1200/4 1100/5 1200/6; law \"a=0&b=0&q-r=1\"";
    private static final String LINE = "sky 100/1 100/2 100/3 100/4 100/5 100/6; law \"q-r=1\"";

    static void tell(Told t) {
        soonest(t);
        within(t);
        way(t);
        wayOfAll(t);
        hands(t);
        waits(t);
        waitsNot(t);
        relay(t);
        relayStarts(t);
        safe(t);
        safeByAll(t);
    }

    private static void soonest(Told t) {
        t.says(18, "SOONEST from the one to the other. BAD; NOT.");
        t.each(TURNS, "soonest(2, 0) -> 4", "soonest(20, 0) -> 9", "soonest(1, 0) -> 1", "soonest(10, 0) -> 1", "soonest(12, 0) -> 4", "soonest(21, 0) -> 4", "soonest(20, 9) -> 12");
        t.says(18, "A MESSAGE goes from who has it at a step to one it SEES then, who has it at the next step; or it waits.");
        t.run("sky 100/1 100/1; soonest(1, 0) -> 1; soonest(1, 999999) -> 1; soonest(10, 0) -> 1");
        t.run(LINE + "; soonest(1, 0) -> 1; soonest(2, 0) -> 2; soonest(3, 0) -> 3; soonest(4, 0) -> 4; soonest(5, 0) -> 5; soonest(50, 0) -> 5; soonest(25, 7) -> 3");
        t.each(TURNS, "soonest(1, 1) -> 12", "soonest(1, 11) -> 2", "soonest(1, 12) -> 1", "soonest(1, 999999) -> 10", "soonest(12, 3) -> 1", "soonest(12, 4) -> 12");
        t.says(18, "SOONEST from one at step t to another one: the least number of steps;");
        t.each(TURNS, "soonest(2, 1) -> 8", "soonest(2, 8) -> 1", "soonest(2, 9) -> 7", "soonest(2, 12) -> 4", "soonest(20, 3) -> 6");
    }

    private static void within(Told t) {
        t.says(18, "NOT: not within 600.");
        t.each(CHAIN, "soonest(5, 0) -> 529", "soonest(5, 132) -> 529", "soonest(5, 62) -> 599", "soonest(5, 61) -> 600", "soonest(5, 60) -> NOT", "soonest(5, 1) -> NOT", "soonest(4, 1) -> 528");
        t.each(CHAIN, "soonest(50, 61) -> 600", "soonest(50, 60) -> NOT", "soonest(5, 193) -> 600", "soonest(5, 192) -> NOT");
        t.run("sky 100/1 100/1; law \"0\"; soonest(1, 0) -> NOT; soonest(10, 999999) -> NOT");
        t.run("sky 100/1 100/2 100/3; law \"r=1&q=2\"; soonest(1, 0) -> 1; soonest(2, 0) -> NOT; soonest(12, 0) -> NOT; soonest(21, 0) -> NOT");
    }

    private static void way(Told t) {
        t.says(19, "WAY: who has it k steps behind t (0 to SOONEST). BAD; NOT.");
        t.run(TURNS + "; way(2, 0, 0) -> 0; way(2, 0, 1) -> 1; way(2, 0, 2) -> 1; way(2, 0, 3) -> 1; way(2, 0, 4) -> 2");
        t.each(TURNS, "way(2, 0, 5) -> BAD", "way(2, 0, -1) -> BAD", "way(2, 0, MIN) -> BAD", "way(2, 0, MAX) -> BAD", "way(2, 8, 2) -> BAD", "way(2, 8, 1) -> 2", "way(2, 8, 0) -> 0");
        t.each(CHAIN, "way(5, 61, 0) -> 0", "way(5, 61, 71) -> 0", "way(5, 61, 72) -> 1", "way(5, 61, 203) -> 1", "way(5, 61, 204) -> 2", "way(5, 61, 599) -> 4", "way(5, 61, 600) -> 5", "way(5, 61, 601) -> BAD");
        t.each(CHAIN, "way(5, 60, 0) -> NOT", "way(5, 60, 600) -> NOT", "way(5, 60, -1) -> BAD");
        t.run("sky 100/1 100/1; law \"0\"; way(1, 0, 0) -> NOT; way(1, 0, 1) -> NOT; way(11, 0, 0) -> BAD; way(1, -1, 0) -> BAD");
        t.run("sky 100/1 100/1; way(1, 999999, 0) -> 0; way(1, 999999, 1) -> 1; way(1, 999999, 2) -> BAD; way(10, 0, 0) -> 1; way(10, 0, 1) -> 0");
    }

    private static void wayOfAll(Told t) {
        t.says(19, "WAY: of all ways that are soonest those with fewest hands on, of these the first (by numbers, step by step): who has it k steps behind t.");
        // 0 sees 1 at step 0, and 2 at step 2, as 1 does: soonest is 3 by 1, too, but with a hand more.
        t.run("sky 400/1 400/2 400/4; law \"a=180&r=1&q=4|a=0&r=1&q=2|a=180&r=2\"; soonest(2, 0) -> 3; way(2, 0, 1) -> 0; way(2, 0, 2) -> 0; way(2, 0, 3) -> 2");
        // Two steps from 0 to 3, by 1 or by 2, and back.
        t.run("sky 100/1 100/2 100/3 100/9; law \"!(r=1&q=9)\"; way(3, 5, 0) -> 0; way(3, 5, 1) -> 1; way(3, 5, 2) -> 3; way(30, 5, 1) -> 1");
        t.run("sky 100/1 100/2 100/3 100/9; law \"!(r=1&q=9)&!(r=1&q=2)\"; way(3, 5, 1) -> 2; way(30, 5, 1) -> 2");
        t.run("sky 100/9 100/3 100/2 100/1; law \"!(r=9&q=1)\"; way(3, 5, 1) -> 1; way(30, 5, 1) -> 1");
        // 0 and 1 see each other always, 2 is seen at step 2 of 4, by 1 alone, or by 0 alone.
        t.run("sky 400/1 400/2 400/3; law \"r=1&q=2|r=2&a=180\"; soonest(2, 0) -> 3; way(2, 0, 1) -> 0; way(2, 0, 2) -> 1; way(2, 0, 3) -> 2");
        t.run("sky 400/1 400/2 400/3; law \"r=1&q=2|r=1&a=180\"; soonest(12, 0) -> 3; way(12, 0, 1) -> 0; way(12, 0, 2) -> 0; way(12, 0, 3) -> 2");
        // Of 4 worlds the first way goes by the lesser number as soon as it can, and by the greater one as late.
        t.run("sky 400/2 400/1 400/2 400/3; law \"q=3?b=180&r=2&(a=180);1\"; soonest(13, 0) -> 3; way(13, 0, 1) -> 0; way(13, 0, 2) -> 0; way(13, 0, 3) -> 3");
        t.run("sky 400/5 400/1 400/2 400/3; law \"q=3?r=2&a=180;1\"; soonest(13, 0) -> 3; way(13, 0, 1) -> 1; way(13, 0, 2) -> 2; way(13, 0, 3) -> 3");
        t.run(LINE + "; way(5, 0, 0) -> 0; way(5, 0, 1) -> 1; way(5, 0, 2) -> 2; way(5, 0, 3) -> 3; way(5, 0, 4) -> 4; way(5, 0, 5) -> 5; way(5, 0, 6) -> BAD");
    }

    private static void hands(Told t) {
        t.says(20, "HANDS. BAD; NOT.");
        t.run(LINE + "; hands(1, 0) -> 1; hands(2, 0) -> 2; hands(5, 0) -> 5; hands(50, 0) -> 5; hands(24, 999999) -> 2");
        t.says(20, "HANDS: the fewest times it is handed on, whenever it comes (within 600 steps); NOT.");
        t.run(TURNS + "; soonest(2, 0) -> 4; hands(2, 0) -> 1; hands(12, 4) -> 1; hands(20, 9) -> 1");
        t.run("sky 1200/1 1200/2 1200/4; law \"r=1&q=2?a=0;r=2?a=90;0\"; hands(2, 0) -> 2; hands(20, 0) -> 2; hands(2, 1) -> 2");
        t.run("sky 1100/1 1200/2 1200/3; law \"q=2?1;r=2?1;a=0&b=0\"; soonest(2, 1) -> 2; hands(2, 1) -> 1; hands(2, 0) -> 1");
        t.each(CHAIN, "hands(5, 61) -> 5", "hands(5, 60) -> NOT", "hands(5, 1) -> NOT", "hands(5, 0) -> 5", "hands(50, 61) -> 5", "hands(50, 60) -> NOT", "hands(4, 1) -> 4", "hands(1, 1) -> 1");
        t.run("sky 100/1 100/1; law \"0\"; hands(1, 0) -> NOT; hands(1, 999999) -> NOT");
        t.run("sky 100/1 100/1; hands(1, 0) -> 1; hands(10, 999999) -> 1");
    }

    private static void waits(Told t) {
        t.says(21, "WAIT (what 0), the first such step (1). BAD; NOT.");
        t.run(TURNS + "; waits(1, 0) -> 12; waits(1, 1) -> 1; waits(2, 0) -> 8; waits(2, 1) -> 1; waits(20, 0) -> 12; waits(20, 1) -> 9; waits(12, 0) -> 12; waits(12, 1) -> 4");
        t.each(TURNS, "waits(1, -1) -> BAD", "waits(1, 2) -> BAD", "waits(1, MIN) -> BAD", "waits(1, MAX) -> BAD", "waits(11, 2) -> BAD");
        // One after another, each two both ways: what one call worked out is no other one's answer.
        t.run(TURNS + "; waits(1, 0) -> 12; waits(21, 0) -> 9; waits(21, 1) -> 4; waits(1, 1) -> 1; waits(2, 0) -> 8; waits(12, 0) -> 12; waits(12, 1) -> 4; waits(2, 1) -> 1; "
            + "waits(10, 0) -> 9; waits(20, 0) -> 12; waits(20, 1) -> 9; waits(10, 1) -> 4; waits(1, 0) -> 12; waits(10, 0) -> 9; waits(12, 0) -> 12; waits(21, 0) -> 9; waits(2, 0) -> 8; waits(20, 0) -> 12");
        t.says(21, "WAIT of two: the greatest SOONEST of all steps of a ROUND; the first such step;");
        t.run("sky 100/1 100/1; waits(1, 0) -> 1; waits(1, 1) -> 0");
        t.run("sky 1200/1 100/2; law \"a=0\"; waits(1, 0) -> 12; waits(1, 1) -> 1");
        t.run("sky 1200/1 100/2; law \"a=30\"; waits(1, 0) -> 12; waits(1, 1) -> 2");
        t.run("sky 1200/1 100/2; law \"a=330\"; waits(1, 0) -> 12; waits(1, 1) -> 0");
        // Twice in a ROUND of 12 alike, at steps 0 and 6: from 1 and from 7.
        t.run("sky 600/1 400/2; law \"a=0&b/90%2=0\"; waits(1, 0) -> 6; waits(1, 1) -> 1");
        t.run("sky 200/1 300/1 100/1; law \"1\"; waits(12, 0) -> 1; waits(12, 1) -> 0");
        t.run("sky 1200/1 1100/2; law \"a=0&b=0\"; waits(1, 0) -> 132; waits(1, 1) -> 1; waits(10, 0) -> 132");
        // Others are in the ROUND, too: 2 hands on to 1 at steps 1 of 5, 0 sees 2 always.
        t.run("sky 100/1 100/2 500/3; law \"q=2?0;r=1?1;b=72\"; waits(1, 0) -> 6; waits(1, 1) -> 1; waits(10, 0) -> 6; waits(10, 1) -> 2");
        t.run("sky 100/1 100/2; waits(1, 0) -> 1; law \"0\"; waits(1, 0) -> NOT; law \"1\"; waits(1, 0) -> 1");
        t.run("sky 1200/1 100/2; law \"a=0\"; waits(1, 1) -> 1; mend(0, 1, 1); waits(1, 1) -> 0; undo(); waits(1, 1) -> 1; mend(0, 0, 6); waits(1, 0) -> 6");
    }

    private static void waitsNot(Told t) {
        t.says(21, "NOT: from some it is NOT.");
        t.run(CHAIN + "; waits(5, 0) -> NOT; waits(5, 1) -> NOT; waits(50, 0) -> NOT; waits(4, 0) -> 528; waits(4, 1) -> 1; waits(40, 0) -> 528; waits(51, 0) -> 528");
        t.run("sky 100/1 100/1; law \"0\"; waits(1, 0) -> NOT; waits(1, 1) -> NOT; waits(1, 2) -> BAD");
        t.run("sky 100/1 100/2 100/3; law \"r=1&q=2\"; waits(1, 0) -> 1; waits(2, 0) -> NOT; waits(12, 1) -> NOT");
    }

    private static void relay(Told t) {
        t.says(22, "RELAY (pr: 10 PERIOD and RING; 1 .. 12, 1 .. 9) for two: its START (what 0), the WAIT (1). BAD; NOT.");
        String two = "sky 100/1 100/2";
        t.each(two, "relay(1, 11, 0) -> 0", "relay(1, 11, 1) -> 1", "relay(1, 129, 0) -> 0", "relay(1, 129, 1) -> 1", "relay(1, 19, 0) -> 0", "relay(1, 121, 0) -> 0");
        t.each(two, "relay(1, 0, 0) -> BAD", "relay(1, 1, 0) -> BAD", "relay(1, 9, 0) -> BAD", "relay(1, 10, 0) -> BAD", "relay(1, 20, 0) -> BAD", "relay(1, 120, 0) -> BAD", "relay(1, 130, 0) -> BAD",
            "relay(1, 131, 0) -> BAD", "relay(1, 139, 1) -> BAD", "relay(1, -11, 0) -> BAD", "relay(1, -1, 0) -> BAD", "relay(1, MIN, 0) -> BAD", "relay(1, MAX, 0) -> BAD");
        t.each(two, "relay(1, 11, -1) -> BAD", "relay(1, 11, 2) -> BAD", "relay(1, 11, MIN) -> BAD", "relay(1, 11, MAX) -> BAD");
        t.says(22, "RELAY: one more world (number 6) of a told PERIOD and RING:");
        // 0 and 1 never see each other; the relay, of RING 5, is seen by 0 at place 0, by 1 at 180, and is the greater number.
        String parted = "sky 100/1 100/2; law \"r=1&q=2?0;q=5?r=1&b=0|r=2&b=180\"";
        t.run(parted + "; waits(1, 0) -> NOT; relay(1, 45, 0) -> 0; relay(1, 45, 1) -> 6; relay(10, 45, 1) -> 6; relay(10, 25, 1) -> 3; relay(1, 25, 1) -> 3; waits(1, 0) -> NOT");
        t.run(parted + "; relay(1, 45, 0); count(0) -> 2; of(0, 23) -> 1; of(2, 0) -> BAD; sees(2, 0) -> BAD; world(300, 3) -> 2; of(2, 0) -> 3; joined(0, 0) -> 1");
        t.run("sky 100/1*5 200/1; relay(1, 121, 0) -> 0; relay(1, 121, 1) -> 1; count(0) -> 6; world(100, 1) -> FULL");
        String six = "sky 100/1 100/2 100/3 100/3 100/3 100/3; law \"q=5?r=1&b=0|r=2&b=180;0\"";
        t.run(six + "; waits(1, 0) -> NOT; relay(1, 45, 0) -> 0; relay(1, 45, 1) -> 6; waits(1, 0) -> NOT; all() -> 0; joined(0, 0) -> 1");
        t.says(22, "NOT: by none.");
        t.each(parted, "relay(1, 46, 0) -> NOT", "relay(1, 46, 1) -> NOT", "relay(1, 35, 0) -> NOT", "relay(1, 35, 1) -> NOT", "relay(1, 15, 0) -> NOT");
        t.run(parted + "; relay(1, 46, 0) -> NOT; relay(1, 46, 0) -> NOT; relay(1, 46, 1) -> NOT; relay(1, 45, 1) -> 6; relay(1, 46, 1) -> NOT; relay(1, 46, 0) -> NOT");
        t.run("sky 100/1 100/2; law \"0\"; relay(1, 11, 0) -> NOT; relay(1, 129, 1) -> NOT; relay(1, 11, 2) -> BAD");
        t.each(CHAIN, "relay(5, 11, 0) -> NOT", "relay(4, 11, 0) -> 0", "relay(4, 11, 1) -> 528");
    }

    private static void relayStarts(Told t) {
        t.says(22, "of all its STARTS that by which WAIT of two told ones is least (of like ones the least); the WAIT;");
        // 0 sees the relay at step 0 of 4, and 1 sees it when it is at 0: one step behind by START 3.
        String late = "sky 400/1 400/2; law \"q=2?0;q=5?r=1&a=0|r=2&b=0\"";
        t.run(late + "; relay(1, 45, 0) -> 3; relay(1, 45, 1) -> 5");
        // By one START alone: at 90 when 0 is at 0, at 180 a step later when 1 is at 90.
        t.run("sky 400/1 400/2; law \"q=2?0;r=1&q=5&a=0&b=90|r=2&q=5&a=90&b=180\"; relay(1, 45, 0) -> 1; relay(1, 45, 1) -> 5");
        // The other way: 1 hands on at b = 0, 0 takes it at a = 0.
        t.run(late + "; relay(10, 45, 0) -> 1; relay(10, 45, 1) -> 5");
        // PERIOD 8: at 0 or at 180 for 1; STARTS 3 and 7 are alike.
        t.run("sky 400/1 400/2; law \"q=2?0;q=5?r=1&a=0|r=2&b%180=0\"; relay(1, 85, 0) -> 3; relay(1, 85, 1) -> 5");
        t.run("sky 400/1 400/2; law \"q=2?0;q=5?r=1&a=0|r=2\"; relay(1, 125, 0) -> 0; relay(1, 125, 1) -> 5");
        t.run(late + "; relay(1, 45, 0) -> 3; relay(10, 45, 0) -> 1; relay(1, 45, 0) -> 3; relay(1, 46, 0) -> NOT; relay(1, 45, 1) -> 5; relay(1, 25, 0) -> 1; relay(1, 15, 1) -> 5; relay(1, 45, 1) -> 5");
        t.run(late + "; relay(1, 15, 0) -> 0; relay(1, 25, 0) -> 1; relay(1, 25, 1) -> 5; relay(1, 19, 0) -> NOT; waits(1, 0) -> NOT; relay(1, 15, 1) -> 5; waits(1, 0) -> NOT");
        t.run(late + "; relay(1, 45, 0) -> 3; mend(0, 1, 1); relay(1, 45, 0) -> 0; undo(); relay(1, 45, 0) -> 3; law \"0\"; relay(1, 45, 0) -> NOT");
    }

    private static void safe(Told t) {
        t.says(23, "SAFE (tp: 10 times how often it is sent, 1 or 2, and the part as ever).");
        String three = "sky 100/1 100/2 100/3; law \"q-r=1\"; mend(0, 4, 3)";
        t.each(three, "safe(1, 0, 10) -> 3", "safe(1, 0, 11) -> 4", "safe(1, 0, 20) -> 15", "safe(1, 0, 21) -> 16", "safe(2, 0, 10) -> 9", "safe(2, 0, 11) -> 16", "safe(2, 0, 20) -> 207", "safe(2, 0, 21) -> 256");
        t.says(23, "Long.MIN_VALUE: BAD, or SOONEST is NOT.");
        for (String tp : new String[] {"0", "1", "9", "12", "19", "22", "29", "30", "31", "100", "-10", "-11", "MIN", "MAX"}) t.run(three + "; safe(1, 0, " + tp + ") -> NONE");
        t.each(CHAIN, "safe(5, 60, 10) -> NONE", "safe(5, 60, 21) -> NONE", "safe(5, 61, 10) -> 1");
        t.run("sky 100/1 100/1; law \"0\"; safe(1, 0, 10) -> NONE; safe(1, 0, 11) -> NONE; safe(1, 0, 20) -> NONE; safe(1, 0, 21) -> NONE");
        t.says(23, "STORM (0 .. 11; 0 at first): in so many of twelve hands a message is lost.");
        t.run("sky 100/1 100/1; safe(1, 0, 10) -> 1; safe(1, 0, 11) -> 1; safe(1, 0, 20) -> 1; safe(1, 0, 21) -> 1");
        int[][] once = {{1, 1}, {11, 12}, {5, 6}, {3, 4}, {2, 3}, {7, 12}, {1, 2}, {5, 12}, {1, 3}, {1, 4}, {1, 6}, {1, 12}};
        for (int s = 0; s < 12; s++) t.run("sky 100/1 100/1; mend(0, 4, " + s + "); safe(1, 0, 10) -> " + once[s][0] + "; safe(1, 0, 11) -> " + once[s][1]);
    }

    private static void safeByAll(Told t) {
        t.says(23, "SAFE: the chance that one sent so that it is SOONEST by the WAY comes, as a fraction in lowest terms, if it is sent once, or twice (each by itself).");
        t.run("sky 100/1 100/1; mend(0, 4, 11); safe(1, 0, 20) -> 23; safe(1, 0, 21) -> 144");
        t.run("sky 100/1 100/1; mend(0, 4, 6); safe(1, 0, 20) -> 3; safe(1, 0, 21) -> 4");
        t.run("sky 100/1 100/1; mend(0, 4, 4); safe(1, 0, 20) -> 8; safe(1, 0, 21) -> 9");
        t.run(LINE + "; safe(5, 0, 20) -> 1; safe(5, 0, 21) -> 1; mend(0, 4, 11); safe(5, 0, 10) -> 1; safe(5, 0, 11) -> 248832; safe(5, 0, 20) -> 497663; safe(5, 0, 21) -> 61917364224");
        t.run(LINE + "; mend(0, 4, 1); safe(5, 0, 10) -> 161051; safe(5, 0, 11) -> 248832; safe(5, 0, 20) -> " + (2L * 161051 * 248832 - 161051L * 161051) + "; safe(5, 0, 21) -> 61917364224");
        t.run("sky 100/1 100/2 100/3 100/4 100/5 100/6; law \"q-r=1\"; mend(0, 4, 6); safe(24, 0, 11) -> 4; safe(42, 0, 11) -> 4; safe(25, 0, 11) -> 8; safe(52, 0, 11) -> 8; safe(54, 0, 11) -> 2; safe(10, 0, 11) -> 2; safe(51, 0, 11) -> 16; safe(15, 0, 11) -> 16; safe(50, 0, 11) -> 32");
        // By the WAY with fewest hands: one, though two are as soon; and by two where they are sooner than one.
        t.run("sky 400/1 400/2 400/4; law \"a=180&r=1&q=4|a=0&r=1&q=2|a=180&r=2\"; mend(0, 4, 6); safe(2, 0, 11) -> 2; safe(2, 0, 10) -> 1");
        t.run(TURNS + "; mend(0, 4, 6); safe(2, 0, 11) -> 4; safe(2, 1, 11) -> 2; hands(2, 0) -> 1");
        t.run(CHAIN + "; mend(0, 4, 6); safe(5, 61, 10) -> 1; safe(5, 61, 11) -> 32; safe(5, 61, 20) -> 63; safe(5, 61, 21) -> 1024");
    }
}

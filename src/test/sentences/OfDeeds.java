/** Promises 27 to 33: messages in deed, draws, the image, changes undone and done again. */
final class OfDeeds {
    private static final String TURNS = "sky 1200/1 1200/2 1200/4; law \"r=1&q=2?a=0;r=2?a=90;r=1&q=4?a=240\"";

    static void tell(Told t) {
        send(t);
        go(t);
        goByTheWay(t);
        goByChance(t);
        drawn(t);
        drawnByFormula(t);
        image(t);
        back(t);
        undo(t);
        redo(t);
        forty(t);
        fortyOfAll(t);
    }

    private static int next(int z) {
        return z * 1103515245 + 12345;
    }

    private static void send(Told t) {
        t.says(27, "A MESSAGE from the one to the other: its number. BAD, FULL: 10.");
        t.run("sky 100/1*3; send(12) -> 0; of(0, 10) -> 1; of(0, 11) -> 2; of(0, 12) -> 1; of(0, 13) -> NOT; count(1) -> 1; count(2) -> 0");
        t.run("sky 100/1*2; send(1) *9; send(1) -> 9; count(1) -> 10; of(9, 10) -> 0");
        t.run("sky 100/1*2; send(1) *10; send(1) -> FULL; send(10) -> FULL; count(1) -> 10; of(10, 10) -> BAD");
        t.run("sky 100/1*2; send(1) *10; send(11) -> BAD; send(2) -> BAD; send(-1) -> BAD");
        t.run("sky 100/1*2; send(1) *10; go(1, 2) -> 10; send(1) -> FULL");
        t.each("sky 100/1*2", "send(0) -> BAD", "send(11) -> BAD", "send(2) -> BAD", "send(20) -> BAD", "send(-1) -> BAD", "send(MIN) -> BAD", "send(MAX) -> BAD");
        t.says(27, "MESSAGES 0 .. 9, as they come: from, to; who has it.");
        t.run("sky 100/1*3; send(1) -> 0; send(12) -> 1; send(20) -> 2; of(0, 12) -> 0; of(1, 12) -> 1; of(2, 12) -> 2; of(2, 11) -> 0; send(3) -> BAD; send(2) -> 3");
    }

    private static void go(Told t) {
        t.says(28, "n STEPS (1 .. 99) by a SEED: how many MESSAGES came. BAD.");
        t.each("sky 100/1*2; send(1)", "go(1, 0) -> BAD", "go(1, -1) -> BAD", "go(1, 100) -> BAD", "go(1, MIN) -> BAD", "go(1, MAX) -> BAD", "go(1, 1) -> 1", "go(1, 99) -> 1", "go(MIN, 1) -> 1", "go(MAX, 1) -> 1");
        t.run("sky 100/1*2; go(1, 99) -> 0; of(0, 22) -> 99; go(1, 1) -> 0; of(0, 22) -> 100");
        t.run("go(1, 5) -> 0; of(0, 22) -> 5");
        t.run("sky 100/1*2; send(1) *3; go(1, 1) -> 3; go(1, 1) -> 0; send(10); go(1, 5) -> 1; count(2) -> 4");
        t.says(28, "A STEP: MESSAGE by MESSAGE, if not there yet:");
        t.run("sky 100/1 100/2 100/3; law \"q-r=1\"; send(2); go(1, 1) -> 0; of(0, 12) -> 1; of(0, 13) -> NOT; go(1, 1) -> 1; of(0, 12) -> 2; of(0, 13) -> 2; go(1, 9) -> 0; of(0, 12) -> 2; of(0, 13) -> 2; of(2, 4) -> 0; of(1, 4) -> 1");
        t.says(28, "CAME: the step at which it did.");
        t.run("sky 100/1*2; send(1); of(0, 13) -> NOT; go(1, 1); of(0, 13) -> 1");
        t.run("sky 100/1*2; go(1, 7); send(1); go(1, 3); of(0, 13) -> 8; of(0, 22) -> 10");
        t.run("sky 1200/1 100/2; law \"a=330\"; send(1); go(1, 11) -> 0; of(0, 13) -> NOT; go(1, 1) -> 1; of(0, 13) -> 12; of(0, 22) -> 12");
        t.says(28, "LED: how often each world handed a MESSAGE on in deed (lost ones, too).");
        t.run("sky 100/1 100/2 100/3; law \"q-r=1\"; send(2) *2; send(1); send(20); go(1, 9) -> 4; of(0, 4) -> 3; of(1, 4) -> 3; of(2, 4) -> 1");
    }

    private static void goByTheWay(Told t) {
        t.says(28, "it is handed on as by the WAY from NOW (it waits, if that does, or there is none);");
        t.run(TURNS + "; send(2); go(1, 1) -> 0; of(0, 12) -> 1; go(1, 2) -> 0; of(0, 12) -> 1; go(1, 1) -> 1; of(0, 12) -> 2; of(0, 13) -> 4; of(0, 4) -> 1; of(1, 4) -> 1");
        t.run(TURNS + "; go(1, 1); send(2); go(1, 7) -> 0; of(0, 12) -> 0; of(0, 4) -> 0; go(1, 1) -> 1; of(0, 13) -> 9; of(0, 4) -> 1");
        // By the fewest hands it waits, though 1 is seen.
        t.run("sky 400/1 400/2 400/4; law \"a=180&r=1&q=4|a=0&r=1&q=2|a=180&r=2\"; send(2); go(1, 2) -> 0; of(0, 12) -> 0; of(0, 4) -> 0; go(1, 1) -> 1; of(0, 4) -> 1; of(1, 4) -> 0");
        t.run("sky 100/1 100/2 100/3 100/9; law \"!(r=1&q=9)\"; send(3); send(30); go(1, 1); of(0, 12) -> 1; of(1, 12) -> 1");
        t.run("sky 100/1*2; law \"0\"; send(1); go(1, 99) -> 0; of(0, 12) -> 0; of(0, 13) -> NOT; of(0, 4) -> 0; law \"1\"; go(1, 1) -> 1; of(0, 13) -> 100");
        t.run("sky 100/1 100/2 100/3; law \"r=1&q=2\"; send(2); go(1, 9) -> 0; of(0, 12) -> 0; of(0, 13) -> NOT; of(0, 4) -> 0");
        // From NOW 0 there is a WAY, of 529 steps; from 60 there is none within 600, from 61 one of 600.
        String chain = "sky 1100/1 1200/2 1100/3 1200/4 1100/5 1200/6; law \"a=0&b=0&q-r=1\"";
        t.run(chain + "; send(5); go(1, 1); of(0, 12) -> 1; go(1, 99) *5; of(0, 12) -> 4; go(1, 33); of(0, 13) -> 529; of(0, 22) -> 529");
        t.run(chain + "; go(1, 60); send(5); go(1, 72); of(0, 12) -> 0; go(1, 1); of(0, 12) -> 1; of(0, 4) -> 1");
    }

    private static void goByChance(Told t) {
        t.says(28, "z = z * 1103515245 + 12345 (an int; SEED at first) ahead of each hand: it is lost, if (z >>> 8) % 12 is below STORM (nobody has it then, for good).");
        for (int storm = 0; storm < 12; storm++) {
            for (int seed : new int[] {1, 5, -1, -77, 123456789, Integer.MIN_VALUE, Integer.MAX_VALUE, 0}) {
                StringBuilder text = new StringBuilder("sky 100/1*2; mend(0, 4, " + storm + "); send(1) *10; ");
                StringBuilder after = new StringBuilder();
                int z = seed, came = 0;
                for (int m = 0; m < 10; m++) {
                    z = next(z);
                    boolean lost = (z >>> 8) % 12 < storm;
                    came += lost ? 0 : 1;
                    after.append("; of(" + m + ", 12) -> " + (lost ? "NOT" : "1") + "; of(" + m + ", 13) -> " + (lost ? "NOT" : "1"));
                }
                t.run(text + "go(" + seed + ", 1) -> " + came + after + "; of(0, 4) -> 10; of(1, 4) -> 0; go(" + seed + ", 9) -> 0" + after + "; of(0, 4) -> 10; count(2) -> " + came);
            }
        }
        // Only a hand draws: the first message waits, so the second one has the first z; and step by step it goes on.
        for (int seed = 1; seed < 20; seed++) {
            int first = next(seed), second = next(first);
            boolean lost = (first >>> 8) % 12 < 6, lostThen = (second >>> 8) % 12 < 6;
            t.run("sky 100/1 100/2 100/9; law \"q-r=1\"; mend(0, 4, 6); send(2); send(1); go(" + seed + ", 3); of(0, 12) -> 0; of(1, 12) -> " + (lost ? "NOT" : "1"));
            t.run("sky 100/1 100/2 100/3; law \"q-r=1\"; mend(0, 4, 6); send(2); go(" + seed + ", 2) -> " + (lost || lostThen ? 0 : 1) + "; of(0, 12) -> " + (lost || lostThen ? "NOT" : "2")
                + "; of(0, 4) -> 1; of(1, 4) -> " + (lost ? 0 : 1));
            t.run("sky 100/1*2; mend(0, 4, 6); send(1); go(" + seed + ", 1); send(1); go(" + seed + ", 1); of(0, 12) -> " + (lost ? "NOT" : "1") + "; of(1, 12) -> " + (lost ? "NOT" : "1"));
        }
    }

    private static void drawn(Told t) {
        t.says(29, "DRAWN: all SOONEST together (what 0), how many NOT (1). BAD; STATE: fewer than two WORLDS.");
        t.each("", "drawn(1, 1, 0) -> STATE", "drawn(1, 30, 1) -> STATE", "drawn(1, 0, 0) -> BAD", "drawn(1, 31, 0) -> BAD", "drawn(1, 1, 2) -> BAD", "drawn(1, 1, -1) -> BAD");
        t.each("sky 100/1", "drawn(1, 1, 0) -> STATE", "drawn(1, 1, 1) -> STATE", "drawn(1, 0, 0) -> BAD", "drawn(1, 31, 1) -> BAD", "drawn(1, 1, 2) -> BAD");
        t.each("sky 100/1*2", "drawn(1, 0, 0) -> BAD", "drawn(1, -1, 0) -> BAD", "drawn(1, 31, 0) -> BAD", "drawn(1, MIN, 0) -> BAD", "drawn(1, MAX, 0) -> BAD", "drawn(1, 1, -1) -> BAD", "drawn(1, 1, 2) -> BAD",
            "drawn(1, 1, MIN) -> BAD", "drawn(1, 1, MAX) -> BAD", "drawn(1, 1, 0) -> 1", "drawn(1, 1, 1) -> 0", "drawn(1, 30, 0) -> 30", "drawn(1, 30, 1) -> 0", "drawn(MIN, 30, 0) -> 30", "drawn(MAX, 30, 0) -> 30");
        t.run("sky 100/1*2; law \"0\"; drawn(1, 30, 0) -> 0; drawn(1, 30, 1) -> 30; drawn(1, 1, 1) -> 1");
        t.says(29, "DRAWN, in thought:");
        t.run("sky 100/1*2; send(1); mend(0, 4, 11); drawn(1, 30, 0) -> 30; of(0, 22) -> 0; count(1) -> 1; of(0, 12) -> 0; of(0, 4) -> 0; of(1, 4) -> 0; count(2) -> 0");
    }

    private static void drawnByFormula(Told t) {
        t.says(29, "n (1 .. 30) MESSAGES by a SEED, z ahead of each: the step (z >>> 8) % ROUND, the one (z >>> 8) % how many WORLDS, the other likewise (if it is the same, the next number, round): all SOONEST together (but NOT); how many NOT.");
        // 0 sees 1 at steps 0, 12, .., and 2 at steps 6, 18, ..; world 3 sees nobody.
        String sky = "sky 1200/1 100/2 100/3; law \"r=1&q=2?a=0;r=1&q=3?a=180;0\"";
        String four = "sky 1200/1 100/2 100/3 700/4; law \"r=1&q=2?a=0;r=1&q=3?a=180;0\"";
        for (int seed : new int[] {0, 1, 2, 5, -9, 20000, Integer.MIN_VALUE, Integer.MAX_VALUE}) {
            for (int n : new int[] {1, 2, 3, 7, 30}) {
                int[] three = draws(seed, n, 3, 12), of4 = draws(seed, n, 4, 84);
                t.run(sky + "; drawn(" + seed + ", " + n + ", 0) -> " + three[0] + "; drawn(" + seed + ", " + n + ", 1) -> " + three[1]);
                t.run(four + "; drawn(" + seed + ", " + n + ", 0) -> " + of4[0] + "; drawn(" + seed + ", " + n + ", 1) -> " + of4[1]);
            }
        }
    }

    private static int[] draws(int seed, int n, int worlds, int round) {
        int z = seed, together = 0, never = 0;
        for (int i = 0; i < n; i++) {
            z = next(z);
            int step = (z >>> 8) % round;
            z = next(z);
            int one = (z >>> 8) % worlds;
            z = next(z);
            int other = (z >>> 8) % worlds;
            if (one == other) other = other + 1 == worlds ? 0 : other + 1;
            if (one == 3 || other == 3) never++;
            else together += soon(one, other, step);
        }
        return new int[] {together, never};
    }

    /** By hand: 0 and 1 meet at steps 0 of 12, 0 and 2 at steps 6; from 1 to 2 and back it goes by 0. */
    private static int soon(int one, int other, int step) {
        int toFirst = (24 - step % 12) % 12, toSixth = (30 - step % 12) % 12;
        if (one == 1 && other == 2) return toFirst + 7;
        if (one == 2 && other == 1) return toSixth + 7;
        return (one == 1 || other == 1 ? toFirst : toSixth) + 1;
    }

    private static void image(Told t) {
        t.says(30, "AN IMAGE is kept: NOW.");
        t.run("image() -> 0; back() -> 0");
        t.run("go(1, 99); go(1, 2); image() -> 101; go(1, 4); image() -> 105; back() -> 105");
        t.run("go(1, 3); image() -> 3; go(1, 4); back() -> 3; of(0, 22) -> 3; go(1, 5); back() -> 3; of(0, 22) -> 3");
        t.says(30, "AN IMAGE keeps NOW, MESSAGES, what LED tells.");
        t.run("sky 100/1 100/2 100/3; law \"q-r=1\"; send(2); go(1, 1); image() -> 1; of(0, 12) -> 1; of(0, 4) -> 1; go(1, 1) -> 1; send(1); "
            + "back() -> 1; of(0, 22) -> 1; count(1) -> 1; count(2) -> 0; of(0, 10) -> 0; of(0, 11) -> 2; of(0, 12) -> 1; of(0, 13) -> NOT; of(0, 4) -> 1; of(1, 4) -> 0; of(1, 12) -> BAD; send(10) -> 1");
        t.run("sky 100/1*2; send(1) *10; image(); back(); send(1) -> FULL; count(1) -> 10; of(9, 11) -> 1");
        t.run("sky 100/1*2; image(); send(1) *10; back(); count(1) -> 0; of(0, 10) -> BAD; send(10) -> 0; of(0, 10) -> 1");
        t.run("sky 100/1*2; mend(0, 4, 11); send(1); go(1, 1); image(); of(0, 12) -> NOT; of(0, 13) -> NOT; go(1, 3); back() -> 1; of(0, 12) -> NOT; of(0, 4) -> 1");
        t.run("sky 400/1*2; send(1); go(1, 1); image(); of(0, 13) -> 1; go(1, 2); of(0, 3) -> 270; back(); of(0, 13) -> 1; count(2) -> 1; of(0, 3) -> 90");
    }

    private static void back(Told t) {
        t.says(31, "It is laid back (of WORLDS that came since 0 is led): NOW. STATE: there is none.");
        t.run("back() -> STATE");
        t.run("sky 100/1*2; send(1); go(1, 5); back() -> STATE; of(0, 22) -> 5; count(1) -> 1; count(2) -> 1");
        t.run("sky 100/1*2; image(); world(100, 1); send(21); send(1); go(1, 1); of(2, 4) -> 1; of(0, 4) -> 1; back() -> 0; of(2, 4) -> 0; of(0, 4) -> 0; count(0) -> 3; of(2, 0) -> 1; count(1) -> 0");
        t.run("sky 100/1*2; send(1); go(1, 1); image(); world(100, 1); send(20); go(1, 1); of(2, 4) -> 1; back() -> 1; of(2, 4) -> 0; of(0, 4) -> 1; send(20) -> 1; go(1, 1) -> 1; of(2, 4) -> 1; back() -> 1; of(2, 4) -> 0");
        // All else stays: worlds, changes, law, tape, bodies, shelves.
        t.run("sky 400/1*2; image(); mend(0, 3, 44); mend(0, 4, 5); mend(0, 1, 2); law \"a=180\"; tape \"d\"; body(3); keep(0, 0); ints 1: 7; back() -> 0; of(0, 20) -> 44; of(0, 21) -> 5; of(0, 1) -> 2; "
            + "count(4) -> 3; count(3) -> 1; count(5) -> 1; sees(1, 0) -> 1; sees(1, 1) -> 0; taken(0, 0) -> 3; element(1, 0) -> 7; undo() -> 2; back() -> 0; redo() -> 0");
    }

    private static void undo(Told t) {
        t.says(32, "UNDONE: how many may still be. STATE: none.");
        t.run("undo() -> STATE");
        t.run("sky 400/1*2; undo() -> STATE; send(1); go(1, 1); law \"1\"; undo() -> STATE; of(0, 0) -> 4");
        t.run("sky 400/1*2; mend(0, 3, 31); undo() -> 0; of(0, 20) -> 30; undo() -> STATE; of(0, 20) -> 30");
        t.says(32, "CHANGES (PERIOD, START, RING of WORLDS; HIDE, STORM; telling the same number is none) can be UNDONE, the latest first, and DONE AGAIN (as long as no other came behind);");
        t.run("sky 400/1 500/2; mend(1, 0, 6); mend(1, 1, 5); mend(0, 2, 9); mend(0, 3, 31); mend(0, 4, 3); count(4) -> 5; "
            + "undo() -> 4; of(0, 21) -> 0; of(0, 20) -> 31; undo() -> 3; of(0, 20) -> 30; of(0, 2) -> 9; undo() -> 2; of(0, 2) -> 1; of(1, 1) -> 5; undo() -> 1; of(1, 1) -> 0; of(1, 0) -> 6; undo() -> 0; of(1, 0) -> 5; undo() -> STATE");
        t.run("sky 403/1*2; mend(0, 0, 4); mend(0, 1, 3); mend(0, 2, 1); mend(0, 3, 30); mend(0, 4, 0); count(4) -> 0; undo() -> STATE");
        t.run("mend(0, 3, 31); mend(0, 3, 32); mend(0, 3, 31); mend(0, 3, 31); undo() -> 2; of(0, 20) -> 32; undo() -> 1; of(0, 20) -> 31; undo() -> 0; of(0, 20) -> 30");
        t.says(32, "(A START that is PERIOD or more stands, what is left counts.)");
        t.run("sky 400/1; mend(0, 0, 9); mend(0, 1, 8); undo() -> 1; undo() -> 0; of(0, 0) -> 4; redo(); redo() -> 0; of(0, 0) -> 9; of(0, 1) -> 8; place(0, 0) -> 320");
        t.run("sky 1200/1; mend(0, 1, 11); mend(0, 0, 4); place(0, 0) -> 270; of(0, 1) -> 11; mend(0, 1, 2) -> 11; undo() -> 2; of(0, 1) -> 11; place(0, 0) -> 270; undo() -> 1; of(0, 0) -> 12; place(0, 0) -> 330");
    }

    private static void redo(Told t) {
        t.says(33, "DONE AGAIN: how many may still be. STATE: none.");
        t.run("redo() -> STATE");
        t.run("mend(0, 3, 31); redo() -> STATE; of(0, 20) -> 31; undo() -> 0; redo() -> 0; of(0, 20) -> 31; redo() -> STATE; count(4) -> 1");
        t.run("mend(0, 3, 31); mend(0, 3, 32); mend(0, 4, 4); undo(); undo(); undo(); redo() -> 2; of(0, 20) -> 31; count(4) -> 1; redo() -> 1; of(0, 20) -> 32; of(0, 21) -> 0; redo() -> 0; of(0, 21) -> 4; redo() -> STATE; count(4) -> 3");
        t.says(33, "DONE AGAIN (as long as no other came behind);");
        t.run("mend(0, 3, 31); mend(0, 3, 32); undo(); mend(0, 4, 1); redo() -> STATE; count(4) -> 2; of(0, 20) -> 31; undo() -> 1; of(0, 21) -> 0; redo() -> 0; of(0, 21) -> 1");
        t.run("mend(0, 3, 31); undo(); mend(0, 3, 30) -> 30; redo() -> 0; of(0, 20) -> 31");
        t.run("mend(0, 3, 31); undo(); mend(0, 3, 181) -> BAD; mend(1, 3, 5) -> BAD; redo() -> 0; of(0, 20) -> 31");
        t.run("mend(0, 3, 31); undo(); mend(0, 3, 31) -> 30; redo() -> STATE; count(4) -> 1");
        t.run("sky 400/1*2; mend(0, 0, 6); undo(); world(500, 1); send(1); go(1, 2); image(); back(); law \"1\"; redo() -> 0; of(0, 0) -> 6; of(0, 23) -> 60");
    }

    /** 45 changes of all sorts: 40 of them undone and done again, each looked at. */
    private static void fortyOfAll(Told t) {
        t.says(33, "40 at most are kept.");
        int[][] sorts = {{0, 0}, {1, 2}, {0, 3}, {2, 1}, {0, 4}, {2, 2}, {1, 0}, {0, 1}, {1, 1}};
        int[] values = {12, 1, 30, 0, 0, 1, 12, 0, 0};
        int[] olds = new int[45], news = new int[45];
        StringBuilder text = new StringBuilder("sky 1200/1 1200/1 1200/1");
        for (int i = 0; i < 45; i++) {
            int sort = i % 9, to = i / 9 + (sorts[sort][1] == 0 ? 6 : sorts[sort][1] == 3 ? 90 : sorts[sort][1] == 2 ? 3 : 1);
            olds[i] = values[sort];
            news[i] = to;
            values[sort] = to;
            text.append("; mend(").append(sorts[sort][0]).append(", ").append(sorts[sort][1]).append(", ").append(to).append(") -> ").append(olds[i]);
        }
        text.append("; count(4) -> 40");
        for (int i = 44; i >= 5; i--) text.append("; undo() -> ").append(i - 5).append(look(sorts[i % 9], olds[i]));
        text.append("; undo() -> STATE; count(4) -> 0");
        for (int i = 5; i < 45; i++) text.append("; redo() -> ").append(44 - i).append(look(sorts[i % 9], news[i]));
        t.run(text + "; redo() -> STATE; count(4) -> 40");
    }

    private static String look(int[] sort, int want) {
        return "; of(" + sort[0] + ", " + (sort[1] > 2 ? 17 + sort[1] : sort[1]) + ") -> " + want;
    }

    private static void forty(Told t) {
        t.says(32, "40 at most are kept.");
        StringBuilder mends = new StringBuilder();
        for (int i = 1; i <= 39; i++) mends.append("mend(0, 3, ").append(100 + i).append("); ");
        t.run(mends + "count(4) -> 39; mend(0, 3, 140); count(4) -> 40; undo() -> 39");
        t.run(mends + "mend(0, 3, 140); mend(0, 3, 141); count(4) -> 40; mend(0, 3, 142); count(4) -> 40; undo() -> 39; of(0, 20) -> 141");
        StringBuilder undos = new StringBuilder();
        for (int i = 39; i >= 0; i--) undos.append("; undo() -> ").append(i);
        StringBuilder redos = new StringBuilder();
        for (int i = 39; i >= 0; i--) redos.append("; redo() -> ").append(i);
        t.run(mends + "mend(0, 3, 140)" + undos + "; of(0, 20) -> 30; undo() -> STATE" + redos + "; of(0, 20) -> 140; redo() -> STATE");
        t.run(mends + "mend(0, 3, 140); mend(0, 3, 141)" + undos + "; of(0, 20) -> 101; undo() -> STATE; of(0, 20) -> 101" + redos + "; of(0, 20) -> 141; redo() -> STATE");
        t.run(mends + "mend(0, 3, 140); undo(); undo(); undo(); mend(0, 4, 1); count(4) -> 38; redo() -> STATE; undo() -> 37; of(0, 21) -> 0; of(0, 20) -> 137; redo() -> 0; of(0, 21) -> 1");
        t.run("sky 400/1 500/2; mend(1, 0, 7); mend(1, 1, 6); mend(0, 2, 9); mend(0, 4, 5); " + mends + "count(4) -> 40; undo() *39; of(0, 21) -> 5; of(0, 20) -> 30; count(4) -> 1; undo() -> 0; of(0, 21) -> 0; of(0, 2) -> 9; of(1, 0) -> 7; of(1, 1) -> 6; undo() -> STATE");
        t.run("mend(0, 3, 31); undo() -> 0; " + mends + "count(4) -> 39; redo() -> STATE");
        StringBuilder many = new StringBuilder("mend(0, 3, 1)");
        for (int i = 2; i <= 120; i++) many.append("; mend(0, 3, ").append(i).append(")");
        t.run(many + "; count(4) -> 40; undo() *40; of(0, 20) -> 80; undo() -> STATE; redo() *40; of(0, 20) -> 120");
    }
}

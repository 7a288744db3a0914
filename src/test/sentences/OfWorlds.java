/** Promises 1 to 5 and 8: worlds, and what is told of them. */
final class OfWorlds {
    private static final String SIX = "sky 100/1 200/2 300/3 400/4 500/5 600/6";

    static void tell(Told t) {
        alone(t);
        come(t);
        full(t);
        fromRows(t);
        rowsThatEnd(t);
        mended(t);
        mendedBeyond(t);
        told(t);
        toldOfNone(t);
        places(t);
        rounds(t);
    }

    private static void alone(Told t) {
        t.says(1, "The large one alone.");
        for (int what = 0; what <= 6; what++) t.run("count(" + what + ") -> 0");
        t.each("", "of(0, 0) -> BAD", "of(0, 4) -> BAD", "of(0, 10) -> BAD", "place(0, 0) -> BAD", "joined(0, 0) -> BAD", "sees(1, 0) -> BAD",
            "trace(0) -> BAD", "undo() -> STATE", "redo() -> STATE", "back() -> STATE", "drawn(1, 1, 0) -> STATE", "send(1) -> BAD",
            "law() -> -100", "act(0, 0, 1) -> 0", "keep(0, 0) -> BAD", "image() -> 0", "go(1, 1) -> 0");
        t.says(1, "HIDE (0 .. 180; 30 at first)");
        t.run("of(0, 20) -> 30");
        t.says(1, "STORM (0 .. 11; 0 at first)");
        t.run("of(0, 21) -> 0");
        t.says(1, "NOW (0 at first).");
        t.run("of(0, 22) -> 0");
        t.says(1, "hold nothing (at first)");
        for (int s = 0; s < 6; s++) t.run("taken(" + s + ", 0) -> -11");
        t.says(1, "All memory is the class's own.");
        BehindBig changed = new BehindBig(), other = new BehindBig();
        t.make(changed, SIX + "; law \"d<90\"; tape \"d\"; mend(0, 3, 5); mend(0, 4, 5); mend(2, 1, 2); undo(); send(1); go(3, 2); image(); go(3, 2)");
        t.make(changed, "body(3); act(0, 3, 1); keep(0, 0); shorts 1: 1 2 3; bytes 2: 4 5 6");
        t.alike("two objects", other, new BehindBig());
        t.says(1, "An object is used for at most 512 calls after it has been made;");
        t.run("count(0) *510; world(1211, 9) -> 0; place(0, 1) -> 0");
        t.run("sky 400/1; mend(0, 3, 31) *510; of(0, 20) -> 31");
        t.run("sky 400/1 400/2; send(1); go(5, 99) *507; of(0, 22) -> 50193; of(0, 3) -> 90");
    }

    private static void come(Told t) {
        t.says(2, "A WORLD (ps: 100 PERIOD and START): its number.");
        t.run("world(403, 5) -> 0; of(0, 0) -> 4; of(0, 1) -> 3; of(0, 2) -> 5; count(0) -> 1");
        t.run("world(1211, 9) -> 0; of(0, 0) -> 12; of(0, 1) -> 11; of(0, 2) -> 9");
        t.each("", "world(-1, 1) -> BAD", "world(-100, 1) -> BAD", "world(-403, 1) -> BAD", "world(MIN, 1) -> BAD", "world(MAX, 1) -> BAD");
        t.says(2, "WORLDS 0 .. 5, as they come:");
        t.run("world(100, 9) -> 0; world(200, 8) -> 1; world(300, 7) -> 2; world(400, 6) -> 3; world(500, 5) -> 4; world(600, 4) -> 5; "
            + "of(0, 0) -> 1; of(1, 0) -> 2; of(2, 0) -> 3; of(3, 0) -> 4; of(4, 0) -> 5; of(5, 0) -> 6; of(5, 2) -> 4; of(0, 2) -> 9");
        t.run("world(99, 1) -> BAD; world(100, 1) -> 0; world(100, 0) -> BAD; world(100, 1) -> 1");
        t.says(2, "PERIOD (1 .. 12 steps)");
        t.each("", "world(0, 1) -> BAD", "world(1, 1) -> BAD", "world(99, 1) -> BAD", "world(100, 1) -> 0", "world(1200, 1) -> 0", "world(1300, 1) -> BAD",
            "world(1299, 1) -> BAD", "world(10000, 1) -> BAD");
        t.says(2, "START (0 .. PERIOD - 1)");
        for (int p = 1; p <= 12; p++) {
            t.run("world(" + (100 * p) + ", 1) -> 0; of(0, 1) -> 0");
            t.run("world(" + (100 * p + p - 1) + ", 1) -> 0; of(0, 1) -> " + (p - 1));
            t.run("world(" + (100 * p + p) + ", 1) -> BAD; count(0) -> 0");
            t.run("world(" + (100 * p + 99) + ", 1) -> BAD");
        }
        t.says(2, "RING (1 .. 9)");
        t.each("", "world(100, 0) -> BAD", "world(100, 1) -> 0", "world(100, 9) -> 0", "world(100, 10) -> BAD", "world(100, -1) -> BAD",
            "world(100, MIN) -> BAD", "world(100, MAX) -> BAD");
    }

    private static void full(Told t) {
        t.says(2, "BAD, FULL: 6.");
        t.run("sky 100/1*5; world(100, 1) -> 5");
        t.run(SIX + "; world(100, 1) -> FULL; count(0) -> 6; of(0, 23) -> 60");
        t.run("bytes 0: 1 0 1 1 0 1 1 0 1 1 0 1 1 0 1 1 0 1; worlds(0, 0, 6) -> 6; world(100, 1) -> FULL");
        t.says(2, "Answers, of several the one named first:");
        t.each(SIX, "world(1300, 1) -> BAD", "world(99, 1) -> BAD", "world(101, 1) -> BAD", "world(100, 0) -> BAD", "world(100, 10) -> BAD", "world(-1, 1) -> BAD");
    }

    private static void fromRows(Told t) {
        t.says(3, "WORLDS FROM A ROW on a SHELF, from place i on, n (1 .. 6) of them: how many came.");
        String bytes = "bytes 0: 1 0 1 2 1 2 3 2 3 4 3 4 5 4 5 6 5 6";
        t.run(bytes + "; worlds(0, 0, 1) -> 1; count(0) -> 1; of(0, 0) -> 1");
        t.run(bytes + "; worlds(0, 0, 6) -> 6; of(5, 0) -> 6; of(5, 1) -> 5; of(5, 2) -> 6");
        t.run(bytes + "; worlds(0, 6, 2) -> 2; of(0, 0) -> 3; of(1, 0) -> 4; count(0) -> 2");
        t.run(bytes + "; worlds(0, 15, 6) -> 1; of(0, 0) -> 6");
        t.run("sky 700/7; " + bytes + "; worlds(0, 3, 2) -> 2; of(0, 0) -> 7; of(1, 0) -> 2; of(2, 0) -> 3");
        t.run("bytes 5: 12 11 9; worlds(5, 0, 1) -> 1; of(0, 1) -> 11");
        t.each(bytes, "worlds(0, 0, 0) -> BAD", "worlds(0, 0, 7) -> BAD", "worlds(0, 0, -1) -> BAD", "worlds(0, 0, MIN) -> BAD", "worlds(0, 0, MAX) -> BAD");
        t.each(bytes, "worlds(-1, 0, 1) -> BAD", "worlds(6, 0, 1) -> BAD", "worlds(MIN, 0, 1) -> BAD", "worlds(MAX, 0, 1) -> BAD");
        t.says(3, "by threes PERIOD, START, RING: n of them;");
        t.run("bytes 0: 12 7 3; worlds(0, 0, 1) -> 1; of(0, 0) -> 12; of(0, 1) -> 7; of(0, 2) -> 3");
        t.run("bytes 0: 9 4 3 2; worlds(0, 1, 1) -> 1; of(0, 0) -> 4; of(0, 1) -> 3; of(0, 2) -> 2");
        t.says(3, "BAD, -12 (no ROW of bytes; a SHELF that holds nothing is missing).");
        t.each("", "worlds(0, 0, 1) -> 0", "worlds(5, 0, 6) -> 0", "worlds(0, -1, 1) -> 0", "worlds(0, MIN, 6) -> 0", "worlds(0, MAX, 6) -> 0");
        for (String sort : new String[] {"shorts", "ints", "longs", "booleans"}) {
            t.run(sort + " 0: 1 0 1; worlds(0, 0, 1) -> -12; count(0) -> 0");
            t.run(sort + " 0:; worlds(0, 0, 1) -> -12");
            t.run(sort + " 0: 1 0 1; worlds(0, 0, 7) -> BAD");
            t.run(sort + " 0: 1 0 1; worlds(0, 60, 1) -> -12");
        }
        t.run("body(0); keep(0, 0); worlds(0, 0, 1) -> -12");
        t.run("body(0); keep(0, 0); worlds(0, 0, 0) -> BAD");
        t.run("body(0); keep(0, 0); keep(0, -1); worlds(0, 0, 1) -> 0");
        t.run(bytes + "; keep(0, -1); worlds(0, 0, 1) -> 0");
    }

    private static void rowsThatEnd(Told t) {
        t.says(3, "WORLDS FROM A ROW of bytes, from a place on:");
        String two = "bytes 0: 5 2 3 6 1 9";
        t.each(two, "worlds(0, 0, 1) -> 1", "worlds(0, 3, 1) -> 1", "worlds(0, 6, 1) -> 0", "worlds(0, 7, 1) -> 0", "worlds(0, MAX, 1) -> 0",
            "worlds(0, -1, 1) -> 0", "worlds(0, -3, 1) -> 0", "worlds(0, MIN, 1) -> 0");
        t.says(3, "it ends where the row is missing, ends (within a three, too), one is not so, or WORLDS are FULL: those ahead came.");
        t.run("worlds(0, 0, 3) -> 0; count(0) -> 0");
        t.run("bytes 0:; worlds(0, 0, 3) -> 0; count(0) -> 0");
        t.run("bytes 0: 5; worlds(0, 0, 1) -> 0; count(0) -> 0");
        t.run("bytes 0: 5 2; worlds(0, 0, 1) -> 0; count(0) -> 0");
        t.run(two + "; worlds(0, 0, 3) -> 2; count(0) -> 2");
        t.run("bytes 0: 5 2 3 6; worlds(0, 0, 2) -> 1; count(0) -> 1");
        t.run("bytes 0: 5 2 3 6 1; worlds(0, 0, 2) -> 1; of(0, 0) -> 5; of(0, 1) -> 2; of(0, 2) -> 3");
        t.run(two + "; worlds(0, 4, 1) -> 0; worlds(0, 5, 1) -> 0");
        String[] wrong = {"0 0 1", "13 0 1", "-1 0 1", "-128 0 1", "127 0 1", "4 4 1", "4 -1 1", "4 127 1", "4 0 0", "4 0 10", "4 0 -1", "0 0 0"};
        for (String three : wrong) {
            t.run("bytes 0: " + three + "; worlds(0, 0, 1) -> 0; count(0) -> 0");
            t.run("bytes 0: 5 2 3 " + three + " 6 1 9; worlds(0, 0, 3) -> 1; count(0) -> 1; of(0, 0) -> 5");
        }
        for (String three : new String[] {"1 0 1", "12 0 1", "12 11 9", "4 3 9", "1 0 9"}) t.run("bytes 0: " + three + "; worlds(0, 0, 1) -> 1");
        t.run("sky 100/1*5; " + two + "; worlds(0, 0, 2) -> 1; count(0) -> 6; of(5, 0) -> 5");
        t.run("sky 100/1*4; " + two + "; worlds(0, 0, 2) -> 2; count(0) -> 6; of(5, 0) -> 6");
        t.run("sky 100/1*6; " + two + "; worlds(0, 0, 1) -> 0; count(0) -> 6; of(5, 0) -> 1");
        t.run("sky 100/1*6; shorts 0: 5 2 3; worlds(0, 0, 1) -> -12");
        t.run("sky 100/1*6; worlds(0, 0, 7) -> BAD");
    }

    private static void mended(Told t) {
        t.says(4, "PERIOD (what 0), START (1; 0 .. PERIOD - 1), RING (2) of a WORLD, HIDE (3), STORM (4; number 0) becomes v: what it was. BAD.");
        String two = "sky 403/5 602/7";
        t.run(two + "; mend(0, 0, 12) -> 4; of(0, 0) -> 12; of(1, 0) -> 6; of(0, 23) -> 12");
        t.run(two + "; mend(1, 0, 1) -> 6; of(1, 0) -> 1; of(0, 0) -> 4");
        t.run(two + "; mend(0, 1, 0) -> 3; of(0, 1) -> 0; place(0, 0) -> 0");
        t.run(two + "; mend(1, 1, 5) -> 2; of(1, 1) -> 5; of(0, 1) -> 3");
        t.run(two + "; mend(0, 2, 1) -> 5; of(0, 2) -> 1; mend(0, 2, 9) -> 1; of(0, 2) -> 9");
        t.run(two + "; mend(0, 3, 0) -> 30; of(0, 20) -> 0; mend(0, 3, 180) -> 0; of(0, 20) -> 180");
        t.run(two + "; mend(0, 4, 11) -> 0; of(0, 21) -> 11; mend(0, 4, 0) -> 11; of(0, 21) -> 0");
        t.run("mend(0, 3, 7) -> 30; mend(0, 4, 2) -> 0; of(0, 20) -> 7; of(0, 21) -> 2; count(4) -> 2");
        t.each(two, "mend(0, 0, 0) -> BAD", "mend(0, 0, 13) -> BAD", "mend(0, 0, -1) -> BAD", "mend(0, 0, MIN) -> BAD", "mend(0, 0, MAX) -> BAD");
        t.each(two, "mend(0, 1, -1) -> BAD", "mend(0, 1, 4) -> BAD", "mend(0, 1, 5) -> BAD", "mend(1, 1, 6) -> BAD", "mend(1, 1, MAX) -> BAD", "mend(1, 1, MIN) -> BAD");
        t.each(two, "mend(0, 2, 0) -> BAD", "mend(0, 2, 10) -> BAD", "mend(0, 2, -1) -> BAD", "mend(0, 2, MIN) -> BAD", "mend(0, 2, MAX) -> BAD");
        t.each(two, "mend(0, 3, -1) -> BAD", "mend(0, 3, 181) -> BAD", "mend(0, 3, MIN) -> BAD", "mend(0, 3, MAX) -> BAD");
        t.each(two, "mend(0, 4, -1) -> BAD", "mend(0, 4, 12) -> BAD", "mend(0, 4, MIN) -> BAD", "mend(0, 4, MAX) -> BAD");
        t.each(two, "mend(0, -1, 1) -> BAD", "mend(0, 5, 1) -> BAD", "mend(0, MIN, 1) -> BAD", "mend(0, MAX, 1) -> BAD");
        for (int what = 0; what < 3; what++) {
            t.each(two, "mend(2, " + what + ", 1) -> BAD", "mend(-1, " + what + ", 1) -> BAD", "mend(6, " + what + ", 1) -> BAD");
            t.each("", "mend(0, " + what + ", 1) -> BAD", "mend(MIN, " + what + ", 1) -> BAD", "mend(MAX, " + what + ", 1) -> BAD");
        }
        for (int what = 3; what < 5; what++) t.each(two, "mend(1, " + what + ", 1) -> BAD", "mend(-1, " + what + ", 1) -> BAD", "mend(2, " + what + ", 1) -> BAD");
    }

    private static void mendedBeyond(Told t) {
        t.says(4, "(A START that is PERIOD or more stands, what is left counts.)");
        t.run("sky 1207/1; mend(0, 0, 5) -> 12; of(0, 1) -> 7; place(0, 0) -> 144; of(0, 3) -> 144; place(0, 3) -> 0");
        t.run("sky 605/1; mend(0, 0, 5) -> 6; of(0, 1) -> 5; place(0, 0) -> 0");
        t.run("sky 605/1; mend(0, 0, 1); of(0, 1) -> 5; place(0, 0) -> 0; mend(0, 0, 12); of(0, 1) -> 5; place(0, 0) -> 150");
        t.run("sky 605/1; mend(0, 0, 5); mend(0, 1, 5) -> BAD; mend(0, 1, 4) -> 5; of(0, 1) -> 4");
        t.run("sky 605/1; mend(0, 0, 5); mend(0, 1, 0) -> 5; of(0, 1) -> 0; count(4) -> 2");
        t.says(4, "telling the same number is none");
        t.run("sky 403/5; mend(0, 0, 4) -> 4; mend(0, 1, 3) -> 3; mend(0, 2, 5) -> 5; mend(0, 3, 30) -> 30; mend(0, 4, 0) -> 0; count(4) -> 0; undo() -> STATE");
    }

    private static void told(Told t) {
        t.says(5, "Of a WORLD: 0 PERIOD, 1 START, 2 RING, 3 PLACE NOW, 4 how often it handed on;");
        t.run("sky 403/5 602/7; of(0, 0) -> 4; of(0, 1) -> 3; of(0, 2) -> 5; of(0, 3) -> 270; of(0, 4) -> 0; of(1, 0) -> 6; of(1, 1) -> 2; of(1, 2) -> 7; of(1, 3) -> 120");
        t.run("sky 403/5; go(1, 1); of(0, 3) -> 0; go(1, 2); of(0, 3) -> 180; place(0, 0) -> 270");
        t.run("sky 100/1 100/1 100/1; send(1); send(2); send(12); go(1, 1); of(0, 4) -> 2; of(1, 4) -> 1; of(2, 4) -> 0");
        t.says(5, "of a MESSAGE: 10 from, 11 to, 12 who has it (NOT: lost), 13 CAME (NOT: not yet);");
        t.run("sky 100/1 100/1 100/1; send(21); of(0, 10) -> 2; of(0, 11) -> 1; of(0, 12) -> 2; of(0, 13) -> NOT; go(1, 1); of(0, 10) -> 2; of(0, 11) -> 1; of(0, 12) -> 1; of(0, 13) -> 1");
        // By SEED 1: z is 1103527590, z >>> 8 is 4310654, and 4310654 % 12 is 2: lost by a STORM of 3, not by one of 2.
        t.run("sky 100/1 100/1; mend(0, 4, 3); send(1); go(1, 1) -> 0; of(0, 12) -> NOT; of(0, 13) -> NOT; of(0, 10) -> 0; of(0, 11) -> 1");
        t.run("sky 100/1 100/1; mend(0, 4, 2); send(1); go(1, 1) -> 1; of(0, 12) -> 1; of(0, 13) -> 1");
        t.says(5, "number 0: 20 HIDE, 21 STORM, 22 NOW, 23 ROUND. BAD.");
        t.run("sky 400/1 600/1; mend(0, 3, 77); mend(0, 4, 5); go(1, 9); of(0, 20) -> 77; of(0, 21) -> 5; of(0, 22) -> 9; of(0, 23) -> 12");
        t.run("of(0, 20) -> 30; of(0, 21) -> 0; of(0, 22) -> 0; of(0, 23) -> 1");
        t.each("sky 400/1 600/1", "of(1, 20) -> BAD", "of(1, 21) -> BAD", "of(1, 22) -> BAD", "of(1, 23) -> BAD", "of(-1, 20) -> BAD", "of(0, 24) -> BAD", "of(0, 19) -> BAD", "of(0, MAX) -> BAD");
    }

    private static void toldOfNone(Told t) {
        t.says(5, "BAD (-1): no such number, or it is not as said;");
        for (int what = 0; what < 5; what++) {
            t.each("sky 400/1 600/1; send(1)", "of(2, " + what + ") -> BAD", "of(-1, " + what + ") -> BAD", "of(6, " + what + ") -> BAD", "of(MIN, " + what + ") -> BAD", "of(MAX, " + what + ") -> BAD");
        }
        t.each("sky 400/1 600/1; send(1)", "of(0, -1) -> BAD", "of(0, 5) -> BAD", "of(0, 9) -> BAD", "of(0, 14) -> BAD", "of(0, 15) -> BAD", "of(0, MIN) -> BAD");
        for (int what = 10; what < 14; what++) {
            t.each("sky 400/1 600/1; send(1)", "of(1, " + what + ") -> BAD", "of(-1, " + what + ") -> BAD", "of(10, " + what + ") -> BAD", "of(MAX, " + what + ") -> BAD", "of(MIN, " + what + ") -> BAD");
        }
        t.run("sky 400/1 600/1; send(1) *10; of(9, 10) -> 0; of(9, 11) -> 1; of(10, 10) -> BAD");
        t.run("sky 100/1 200/1 300/1 400/1 500/1 600/1; of(5, 0) -> 6; of(6, 0) -> BAD");
    }

    private static void places(Told t) {
        t.says(8, "PLACE of a WORLD at a step. BAD.");
        t.run("sky 400/1 602/1; place(0, 1) -> 90; place(1, 1) -> 180");
        t.each("sky 400/1 602/1", "place(2, 0) -> BAD", "place(-1, 0) -> BAD", "place(6, 0) -> BAD", "place(MIN, 0) -> BAD", "place(MAX, 0) -> BAD");
        t.run("sky 100/1*5 401/1; place(5, 0) -> 90");
        t.says(8, "PLACE of one at a step t (0 .. 999999):");
        t.each("sky 403/1", "place(0, 0) -> 270", "place(0, 999999) -> 180", "place(0, 999998) -> 90", "place(0, 1000000) -> BAD", "place(0, -1) -> BAD", "place(0, MIN) -> BAD", "place(0, MAX) -> BAD");
        t.says(8, "(t and START, by PERIOD what is left) times 360 by PERIOD, cut: 0 .. 359.");
        // The wrap: the last step ahead of it, the step of it, the one behind it.
        t.run("sky 1210/1; place(0, 0) -> 300; place(0, 1) -> 330; place(0, 2) -> 0; place(0, 3) -> 30; place(0, 13) -> 330; place(0, 14) -> 0");
        t.run("sky 100/1; place(0, 0) -> 0; place(0, 999999) -> 0");
        t.run("sky 700/1; place(0, 1) -> 51; place(0, 2) -> 102; place(0, 3) -> 154; place(0, 4) -> 205; place(0, 5) -> 257; place(0, 6) -> 308; place(0, 7) -> 0");
        t.run("sky 1110/1; place(0, 0) -> 327; place(0, 1) -> 0; place(0, 2) -> 32");
        for (int p = 1; p <= 12; p++) {
            for (int s = 0; s < p; s++) {
                StringBuilder text = new StringBuilder("sky " + (100 * p + s) + "/1");
                for (int k = 0; k < 14; k++) text.append("; place(0, " + k + ") -> " + (k + s) % p * 360 / p);
                t.run(text + "; place(0, 999999) -> " + (999999 + s) % p * 360 / p);
            }
        }
    }

    private static void rounds(Told t) {
        t.says(5, "ROUND: the least number of steps after which all PLACES come again (1 without WORLDS);");
        t.run("of(0, 23) -> 1; world(100, 1); of(0, 23) -> 1; world(400, 1); of(0, 23) -> 4; world(600, 1); of(0, 23) -> 12; world(501, 1); of(0, 23) -> 60");
        t.run("sky 1200/1; of(0, 23) -> 12; mend(0, 0, 7); of(0, 23) -> 7; undo(); of(0, 23) -> 12");
        t.run("sky 1200/1 1100/1 1000/1 900/1 800/1 700/1; of(0, 23) -> 27720");
        t.run("sky 600/1*6; of(0, 23) -> 6");
    }
}

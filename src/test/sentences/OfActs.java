/** Promises 34 to 36: relays' acts and their trace. */
final class OfActs {
    private static final int[] NUMBERS = {0, 1, 7, 12, 49};
    private static final int[] VALUES = {0, 1, -1, 5, -77, 100000, Integer.MAX_VALUE, Integer.MIN_VALUE, Integer.MAX_VALUE - 3};
    private static final String[] KINDS = {"0 RELAY;", "1 NEAR under RELAY;", "2 DARK under RELAY;", "3 BEAMED under DARK;", "4 FAR under NEAR;", "5 STORMED under BEAMED;", "6 STORED under RELAY;", "7 LOST under FAR."};
    private static final String[] OWN = {"RELAY: 10 sends: sees(x) * 2. 11 turns: x ^ n.", "NEAR: 20 sees: super.sees(x) + 3.", "DARK: 30 sends: -super.sends(x).",
        "BEAMED: 40 turns: super.turns(x) * 3. 41 sends: super.sends(x + 1).", "FAR: 50 turns: super.turns(x) - sees(2).", "STORMED: 60 tells: super.tells(x) ^ 5.",
        "STORED: 70 sees: super.sees(x) * 2.", "LOST: 80 sends: super.sends(x) + turns(2). 81 tells: super.tells(x) - 1."};
    private static final String[] ACTS = {"0 sees,", "1 sends,", "2 turns,", "3 tells;"};

    static void tell(Told t) {
        bodies(t);
        none(t);
        all(t);
        wraps(t);
        trace(t);
    }

    private static void bodies(Told t) {
        t.says(34, "A RELAY of a KIND (0 .. 7) is kept: its number. BAD, FULL.");
        for (int kind = 0; kind < 8; kind++) t.run("body(" + kind + ") -> 0; count(5) -> 1; keep(0, 0); taken(0, 0) -> " + kind);
        t.each("", "body(-1) -> BAD", "body(8) -> BAD", "body(MIN) -> BAD", "body(MAX) -> BAD");
        t.run("body(8) -> BAD; body(7) -> 0; body(-1) -> BAD; body(0) -> 1; count(5) -> 2");
        t.says(34, "RELAYS' ways are kept by call as BODIES 0 .. 49, of KINDS:");
        t.run("body(1) *49; body(2) -> 49; count(5) -> 50; body(2) -> FULL; count(5) -> 50; keep(0, 49) -> 1; taken(0, 2) -> 2; keep(0, 50) -> BAD");
        t.run("body(1) *50; body(0) -> FULL; body(7) -> FULL; body(8) -> BAD; body(-1) -> BAD");
        t.run("body(1) *50; act(49, 0, 1) -> 53; act(50, 0, 1) -> 0");
        t.run("body(3) -> 0; body(6) -> 1; body(0) -> 2; keep(0, 0); keep(1, 1); keep(2, 2); taken(0, 0) -> 3; taken(1, 0) -> 6; taken(2, 0) -> 0");
    }

    private static void none(Told t) {
        t.says(35, "An ACT (0 .. 3) of a RELAY with x. 0, and no TRACE then: no such RELAY, ACT.");
        for (String call : new String[] {"act(1, 0, 5)", "act(-1, 0, 5)", "act(50, 0, 5)", "act(MIN, 0, 5)", "act(MAX, 0, 5)", "act(0, 4, 5)", "act(0, -1, 5)", "act(0, MIN, 5)", "act(0, MAX, 5)", "act(1, 4, 5)"}) {
            t.run("body(7); act(0, 3, 5); count(6) -> 14; trace(0) -> 81; " + call + " -> 0; count(6) -> 0; trace(0) -> BAD; trace(13) -> BAD; count(5) -> 1");
            t.run("body(7); " + call + " -> 0; count(6) -> 0; act(0, 2, 5); count(6) -> 4");
        }
        t.run("act(0, 0, 5) -> 0; count(6) -> 0; trace(0) -> BAD");
        // An act whose answer is 0 has its trace all the same.
        t.run("body(0); act(0, 0, 0) -> 0; count(6) -> 1; trace(0) -> 1");
    }

    /** Each ACT of each KIND by hand: what it answers for x and the number, and the bodies in their order. */
    private static void all(Told t) {
        t.says(35, "SEES (an interface of RELAY): 1 sees: x + n.");
        t.run("body(0) *3; act(2, 0, 40) -> 42; count(6) -> 1; trace(0) -> 1");
        t.says(35, "TELLS (of RELAY): 2 tells: sends(x) - turns(1).");
        t.run("body(0) *3; act(2, 3, 40) -> 81; count(6) -> 4; trace(0) -> 2; trace(1) -> 10; trace(2) -> 1; trace(3) -> 11");
        t.says(35, "sees(..) and so on: the body of its own KIND, or of the next KIND above that has one; super: from the KIND above the body's on.");
        t.run("body(7) *3; act(2, 3, 40) -> " + (90 + (0 - 7) - (3 - 7) - 1) + "; trace(0) -> 81; trace(1) -> 2; trace(2) -> 80; trace(3) -> 10; trace(4) -> 20; trace(5) -> 1; trace(6) -> 50; trace(7) -> 11; trace(8) -> 20; "
            + "trace(9) -> 1; trace(10) -> 50; trace(11) -> 11; trace(12) -> 20; trace(13) -> 1; trace(14) -> BAD");
        for (int kind = 0; kind < 8; kind++) {
            for (int act = 0; act < 4; act++) {
                t.says(35, KINDS[kind]);
                t.says(35, "ACTS with x (an int that wraps): " + (act == 0 ? ACTS[0] : "0 sees,"));
                t.says(35, ACTS[act]);
                t.says(35, OWN[kind]);
                for (int n : NUMBERS) for (int x : VALUES) one(t, kind, act, n, x);
            }
        }
    }

    private static void one(Told t, int kind, int act, int n, int x) {
        int[] bodies = traceOf(kind, act);
        StringBuilder text = new StringBuilder("body(" + kind + ") *" + (n + 1) + "; act(" + n + ", " + act + ", " + x + ") -> " + worth(kind, act, n, x) + "; count(6) -> " + bodies.length);
        for (int i = 0; i < bodies.length; i++) text.append("; trace(" + i + ") -> " + bodies[i]);
        t.run(text + "; trace(" + bodies.length + ") -> BAD");
    }

    private static int worth(int kind, int act, int n, int x) {
        int near = n + 3, far = n + 5;
        int[][] of = {
            {x + n, 2 * (x + n), x ^ n, 2 * (x + n) - (1 ^ n)},
            {x + near, 2 * (x + near), x ^ n, 2 * (x + near) - (1 ^ n)},
            {x + n, -2 * (x + n), x ^ n, -2 * (x + n) - (1 ^ n)},
            {x + n, -2 * (x + 1 + n), 3 * (x ^ n), -2 * (x + 1 + n) - 3 * (1 ^ n)},
            {x + near, 2 * (x + near), (x ^ n) - far, 2 * (x + near) - ((1 ^ n) - far)},
            {x + n, -2 * (x + 1 + n), 3 * (x ^ n), -2 * (x + 1 + n) - 3 * (1 ^ n) ^ 5},
            {2 * (x + n), 4 * (x + n), x ^ n, 4 * (x + n) - (1 ^ n)},
            {x + near, 2 * (x + near) + (2 ^ n) - far, (x ^ n) - far, 2 * (x + near) + (2 ^ n) - (1 ^ n) - 1}
        };
        return of[kind][act];
    }

    private static int[] traceOf(int kind, int act) {
        int[][][] of = {
            {{1}, {10, 1}, {11}, {2, 10, 1, 11}},
            {{20, 1}, {10, 20, 1}, {11}, {2, 10, 20, 1, 11}},
            {{1}, {30, 10, 1}, {11}, {2, 30, 10, 1, 11}},
            {{1}, {41, 30, 10, 1}, {40, 11}, {2, 41, 30, 10, 1, 40, 11}},
            {{20, 1}, {10, 20, 1}, {50, 11, 20, 1}, {2, 10, 20, 1, 50, 11, 20, 1}},
            {{1}, {41, 30, 10, 1}, {40, 11}, {60, 2, 41, 30, 10, 1, 40, 11}},
            {{70, 1}, {10, 70, 1}, {11}, {2, 10, 70, 1, 11}},
            {{20, 1}, {80, 10, 20, 1, 50, 11, 20, 1}, {50, 11, 20, 1}, {81, 2, 80, 10, 20, 1, 50, 11, 20, 1, 50, 11, 20, 1}}
        };
        return of[kind][act];
    }

    private static void wraps(Told t) {
        t.says(35, "ACTS with x (an int that wraps):");
        t.run("body(0) *2; act(1, 0, MAX) -> -2147483648; act(1, 1, MAX) -> 0; act(0, 1, 1073741824) -> -2147483648; act(1, 2, MAX) -> 2147483646");
        t.run("body(2); act(0, 1, 1073741824) -> -2147483648; act(0, 1, MIN) -> 0");
        t.run("body(3) *2; act(1, 1, MAX) -> -2; act(0, 2, MIN) -> -2147483648; act(0, 2, MAX) -> 2147483645");
        t.says(35, "n its number.");
        t.run("body(0) *50; act(0, 0, 100) -> 100; act(49, 0, 100) -> 149; act(49, 2, 0) -> 49; act(50, 0, 100) -> 0");
    }

    private static void trace(Told t) {
        t.says(36, "THE TRACE's i-th body. BAD.");
        t.run("trace(0) -> BAD");
        t.run("body(7); act(0, 3, 5); trace(0) -> 81; trace(13) -> 1; trace(14) -> BAD; trace(23) -> BAD; trace(24) -> BAD; trace(-1) -> BAD; trace(MIN) -> BAD; trace(MAX) -> BAD");
        t.says(36, "THE TRACE: numbers of the bodies that ran in the latest act(), as they began; the first 24 are kept.");
        t.run("body(7); body(0); act(0, 3, 5); act(1, 0, 5); count(6) -> 1; trace(0) -> 1; trace(1) -> BAD; act(1, 1, 5); trace(0) -> 10; trace(1) -> 1; trace(2) -> BAD; count(6) -> 2");
        t.run("body(4); act(0, 3, 5); body(9) -> BAD; mend(0, 3, 7); row(0, 0, 3); trace(0) -> 2; trace(7) -> 1; trace(8) -> BAD; count(6) -> 8");
    }
}

/** Promises 37 to 43: shelves, rows, what they hold, and counts. */
final class OfShelves {
    private static final String[] SORTS = {"bytes", "shorts", "ints", "longs", "booleans"};
    private static final String[] WRONG_SHELVES = {"-1", "6", "MIN", "MAX"};

    static void tell(Told t) {
        keep(t);
        row(t);
        rowHolds(t);
        put(t);
        lowestBits(t);
        element(t);
        shift(t);
        shiftRefused(t);
        shiftPlaces(t);
        taken(t);
        count(t);
    }

    private static void keep(Told t) {
        t.says(37, "A SHELF holds nothing (body -1), or a RELAY: 1. BAD.");
        t.run("body(5); keep(0, 0) -> 1; taken(0, 0) -> 5; keep(0, -1) -> 1; taken(0, 0) -> -11; keep(0, -1) -> 1");
        t.run("body(5); body(1); keep(5, 1) -> 1; taken(5, 0) -> 1; keep(5, 0) -> 1; taken(5, 0) -> 5; taken(4, 0) -> -11");
        t.run("body(2); keep(0, 0); keep(1, 0) -> 1; taken(0, 0) -> 2; taken(1, 0) -> 2; count(5) -> 1");
        t.run("ints 3: 4 5; keep(3, -1) -> 1; element(3, 0) -> NONE; put(3, 0, 1) -> -11; row(3, 2, 2); element(3, 0) -> 0");
        t.run("ints 3: 4 5; body(0); keep(3, 0) -> 1; put(3, 0, 1) -> -12; taken(3, 0) -> 0");
        t.each("body(5)", "keep(0, 1) -> BAD", "keep(0, -2) -> BAD", "keep(0, 50) -> BAD", "keep(0, MIN) -> BAD", "keep(0, MAX) -> BAD");
        t.each("", "keep(0, 0) -> BAD", "keep(0, -1) -> 1", "keep(5, -1) -> 1");
        for (String shelf : WRONG_SHELVES) t.each("body(5)", "keep(" + shelf + ", 0) -> BAD", "keep(" + shelf + ", -1) -> BAD", "keep(" + shelf + ", 7) -> BAD");
        t.run("body(5); ints 0: 4; keep(0, 1) -> BAD; element(0, 0) -> 4; keep(0, -2) -> BAD; element(0, 0) -> 4");
    }

    private static void row(Told t) {
        t.says(38, "A SHELF holds a ROW: 1. BAD (sort, n above 60); -14.");
        for (int sort = 0; sort < 5; sort++) {
            t.each("", "row(0, " + sort + ", 0) -> 1", "row(5, " + sort + ", 60) -> 1", "row(0, " + sort + ", 61) -> BAD", "row(0, " + sort + ", MAX) -> BAD", "row(0, " + sort + ", -1) -> -14", "row(0, " + sort + ", MIN) -> -14");
        }
        t.each("", "row(0, -1, 3) -> BAD", "row(0, 5, 3) -> BAD", "row(0, MIN, 3) -> BAD", "row(0, MAX, 3) -> BAD", "row(0, 5, -1) -> BAD", "row(0, -1, -1) -> BAD", "row(0, 5, 61) -> BAD");
        for (String shelf : WRONG_SHELVES) t.each("", "row(" + shelf + ", 0, 3) -> BAD", "row(" + shelf + ", 0, -1) -> BAD", "row(" + shelf + ", 5, -1) -> BAD");
        t.run("ints 0: 4 5; row(0, 2, -1) -> -14; element(0, 1) -> 5; row(0, 2, 61) -> BAD; element(0, 1) -> 5; row(0, 5, 2) -> BAD; element(0, 1) -> 5");
        t.run("body(3); keep(0, 0); row(0, 0, -1) -> -14; taken(0, 0) -> 3; row(0, 0, 61) -> BAD; taken(0, 0) -> 3");
        t.says(38, "-14 a size below 0.");
        t.run("row(0, 0, -1) -> -14; element(0, 0) -> NONE; put(0, 0, 1) -> -11");
    }

    private static void rowHolds(Told t) {
        t.says(38, "SHELVES 0 .. 5 each hold nothing (at first), a RELAY (a BODY), or a ROW: of 0 bytes, 1 shorts, 2 ints, 3 longs, 4 booleans, of 0 .. 60 elements, 0 at first (false);");
        for (int sort = 0; sort < 5; sort++) {
            for (int n : new int[] {0, 1, 59, 60}) {
                StringBuilder text = new StringBuilder("row(0, " + sort + ", " + n + ") -> 1");
                for (int i = 0; i < n; i++) text.append("; element(0, " + i + ") -> 0");
                t.run(text + "; element(0, " + n + ") -> NONE; put(0, " + n + ", 1) -> -13; taken(0, 0) -> -12");
            }
            t.run(SORTS[sort] + " 0: 1 1 1; row(0, " + sort + ", 3) -> 1; element(0, 0) -> 0; element(0, 1) -> 0; element(0, 2) -> 0");
            t.run(SORTS[sort] + " 0: 1 1 1; row(0, " + sort + ", 0) -> 1; element(0, 0) -> NONE; row(0, " + sort + ", 2) -> 1; element(0, 0) -> 0");
        }
        t.run("bytes 0: 1; shorts 1: 2; ints 2: 3; longs 3: 4; booleans 4: 5; ints 5: 6; element(0, 0) -> 1; element(1, 0) -> 2; element(2, 0) -> 3; element(3, 0) -> 4; element(4, 0) -> 1; element(5, 0) -> 6");
        t.run("body(2); keep(0, 0); row(0, 2, 1) -> 1; taken(0, 0) -> -12; element(0, 0) -> 0; keep(0, 0) -> 1; taken(0, 0) -> 2; element(0, 0) -> NONE");
    }

    private static void put(Told t) {
        t.says(39, "Element i of a ROW becomes v: 1. BAD, -11, -12, -13.");
        t.run("ints 0: 4 5 6; put(0, 0, 7) -> 1; put(0, 2, 9) -> 1; element(0, 0) -> 7; element(0, 1) -> 5; element(0, 2) -> 9");
        for (int sort = 0; sort < 5; sort++) {
            t.run("row(0, " + sort + ", 60); put(0, 59, 1) -> 1; element(0, 59) -> 1; element(0, 58) -> 0; put(0, 0, 1) -> 1; element(0, 0) -> 1; put(0, 60, 1) -> -13");
            t.each(SORTS[sort] + " 0: 1 1 1", "put(0, 3, 1) -> -13", "put(0, -1, 1) -> -13", "put(0, 60, 1) -> -13", "put(0, MIN, 1) -> -13", "put(0, MAX, 1) -> -13");
            t.each("row(0, " + sort + ", 0)", "put(0, 0, 1) -> -13", "put(0, -1, 1) -> -13");
        }
        for (String shelf : WRONG_SHELVES) t.each("ints 0: 4", "put(" + shelf + ", 0, 1) -> BAD", "put(" + shelf + ", 99, 1) -> BAD");
        t.each("ints 0: 4", "put(1, 0, 1) -> -11", "put(5, -1, 1) -> -11", "put(1, 99, 1) -> -11");
        t.each("body(0); keep(0, 0)", "put(0, 0, 1) -> -12", "put(0, -1, 1) -> -12", "put(0, 99, 1) -> -12");
        t.says(39, "The host's REFUSALS: -11 nothing is there where something is wanted; -12 it is of another kind; -13 a place that is not there;");
        t.run("put(0, 0, 1) -> -11; body(0); keep(0, 0); put(0, 0, 1) -> -12; row(0, 2, 1); put(0, 1, 1) -> -13; put(0, 0, 1) -> 1; keep(0, -1); put(0, 0, 1) -> -11");
    }

    private static void lowestBits(Told t) {
        t.says(39, "what is put in keeps its lowest bits (a boolean: whether it is not 0; 1 or 0).");
        long[] values = {0, 1, -1, 127, 128, -128, -129, 255, 256, 257, 32767, 32768, -32768, -32769, 65535, 65536, 65537, 2147483647L, 2147483648L, -2147483648L, -2147483649L,
            4294967295L, 4294967296L, 4294967297L, Long.MAX_VALUE, Long.MIN_VALUE + 1, 0x123456789ABCDEF0L};
        for (long v : values) {
            t.run("row(0, 0, 1); put(0, 0, " + v + ") -> 1; element(0, 0) -> " + (byte) v);
            t.run("row(0, 1, 1); put(0, 0, " + v + ") -> 1; element(0, 0) -> " + (short) v);
            t.run("row(0, 2, 1); put(0, 0, " + v + ") -> 1; element(0, 0) -> " + (int) v);
            t.run("row(0, 3, 1); put(0, 0, " + v + ") -> 1; element(0, 0) -> " + v);
            t.run("row(0, 4, 1); put(0, 0, " + v + ") -> 1; element(0, 0) -> " + (v != 0 ? 1 : 0));
        }
        t.run("row(0, 0, 1); put(0, 0, 128) -> 1; element(0, 0) -> -128; put(0, 0, 256) -> 1; element(0, 0) -> 0; put(0, 0, -129) -> 1; element(0, 0) -> 127");
        t.run("row(0, 1, 1); put(0, 0, 32768) -> 1; element(0, 0) -> -32768; put(0, 0, 65536) -> 1; element(0, 0) -> 0; put(0, 0, 40000) -> 1; element(0, 0) -> -25536");
        t.run("row(0, 2, 1); put(0, 0, 2147483648) -> 1; element(0, 0) -> -2147483648; put(0, 0, 4294967296) -> 1; element(0, 0) -> 0");
        t.run("booleans 0: 1; put(0, 0, 0) -> 1; element(0, 0) -> 0; put(0, 0, 2) -> 1; element(0, 0) -> 1; put(0, 0, 0); put(0, 0, 256) -> 1; element(0, 0) -> 1; put(0, 0, 0); put(0, 0, 4294967296) -> 1; element(0, 0) -> 1");
        t.run("row(0, 3, 1); put(0, 0, NONE) -> 1; element(0, 0) -> NONE; put(0, 0, 0); element(0, 0) -> 0");
        t.run("row(0, 4, 1); put(0, 0, NONE) -> 1; element(0, 0) -> 1");
        t.run("row(0, 2, 1); put(0, 0, 5); put(0, 0, NONE) -> 1; element(0, 0) -> 0");
    }

    private static void element(Told t) {
        t.says(40, "Element i of a ROW; Long.MIN_VALUE: BAD, -11 to -13.");
        t.run("ints 0: 4 5 6; element(0, 0) -> 4; element(0, 1) -> 5; element(0, 2) -> 6; element(0, 3) -> NONE; element(0, -1) -> NONE");
        for (int sort = 0; sort < 5; sort++) {
            t.each(SORTS[sort] + " 0: 1 1 1", "element(0, 3) -> NONE", "element(0, -1) -> NONE", "element(0, 59) -> NONE", "element(0, 60) -> NONE", "element(0, MIN) -> NONE", "element(0, MAX) -> NONE", "element(0, 2) -> 1");
            t.each("row(0, " + sort + ", 0)", "element(0, 0) -> NONE", "element(0, -1) -> NONE");
        }
        for (String shelf : WRONG_SHELVES) t.run("ints 0: 4; element(" + shelf + ", 0) -> NONE");
        t.each("ints 0: 4", "element(1, 0) -> NONE", "element(5, 0) -> NONE");
        t.run("body(0); keep(0, 0); element(0, 0) -> NONE");
        t.run("ints 0: 4; keep(0, -1); element(0, 0) -> NONE");
    }

    private static void shift(Told t) {
        t.says(41, "n elements of a ROW from i on come to another one (or the same) from j on, as they all were before: n. BAD, -11 (either), -12 (no ROWS, or of unlike sorts), -13.");
        String two = "ints 0: 1 2 3 4 5; ints 1: 10 20 30";
        t.run(two + "; shift(0, 1, 1, 0, 2) -> 2; element(1, 0) -> 2; element(1, 1) -> 3; element(1, 2) -> 30; element(0, 0) -> 1; element(0, 1) -> 2; element(0, 2) -> 3");
        t.run(two + "; shift(0, 4, 1, 2, 1) -> 1; element(1, 2) -> 5; element(1, 1) -> 20");
        t.run(two + "; shift(1, 0, 0, 2, 3) -> 3; element(0, 1) -> 2; element(0, 2) -> 10; element(0, 3) -> 20; element(0, 4) -> 30");
        t.run(two + "; shift(0, 0, 0, 1, 4) -> 4; element(0, 0) -> 1; element(0, 1) -> 1; element(0, 2) -> 2; element(0, 3) -> 3; element(0, 4) -> 4");
        t.run(two + "; shift(0, 1, 0, 0, 4) -> 4; element(0, 0) -> 2; element(0, 1) -> 3; element(0, 2) -> 4; element(0, 3) -> 5; element(0, 4) -> 5");
        t.run(two + "; shift(0, 0, 0, 0, 5) -> 5; element(0, 0) -> 1; element(0, 4) -> 5");
        t.run("row(0, 3, 60); put(0, 0, 7); put(0, 59, 9); row(5, 3, 60); shift(0, 0, 5, 0, 60) -> 60; element(5, 0) -> 7; element(5, 59) -> 9; shift(0, 0, 5, 0, 61) -> -13");
        for (int sort = 0; sort < 5; sort++) {
            t.run(SORTS[sort] + " 0: 1 0 1; row(1, " + sort + ", 3); shift(0, 0, 1, 0, 3) -> 3; element(1, 0) -> 1; element(1, 1) -> 0; element(1, 2) -> 1");
        }
        t.run("shorts 0: 40000; row(1, 1, 1); shift(0, 0, 1, 0, 1) -> 1; element(1, 0) -> -25536");
    }

    private static void shiftRefused(Told t) {
        t.says(41, "BAD, -11 (either), -12 (no ROWS, or of unlike sorts), -13.");
        for (String shelf : WRONG_SHELVES) {
            t.each("ints 0: 1", "shift(" + shelf + ", 0, 0, 0, 1) -> BAD", "shift(0, 0, " + shelf + ", 0, 1) -> BAD", "shift(" + shelf + ", 0, 1, 0, 1) -> BAD", "shift(1, 0, " + shelf + ", 0, 1) -> BAD");
        }
        t.each("ints 0: 1; body(0); keep(2, 0)", "shift(0, 0, 1, 0, 1) -> -11", "shift(1, 0, 0, 0, 1) -> -11", "shift(1, 0, 1, 0, 1) -> -11", "shift(1, 0, 3, 0, 1) -> -11", "shift(2, 0, 1, 0, 1) -> -11", "shift(1, 0, 2, 0, 1) -> -11",
            "shift(0, 9, 1, 0, 1) -> -11", "shift(1, 0, 0, 9, 1) -> -11", "shift(0, 0, 1, 0, 0) -> -11");
        t.each("ints 0: 1; body(0); keep(2, 0)", "shift(0, 0, 2, 0, 1) -> -12", "shift(2, 0, 0, 0, 1) -> -12", "shift(2, 0, 2, 0, 1) -> -12", "shift(2, 0, 2, 0, 0) -> -12", "shift(2, 9, 0, 0, 1) -> -12", "shift(0, 9, 2, 0, 1) -> -12");
        for (int a = 0; a < 5; a++) {
            for (int b = 0; b < 5; b++) {
                if (a == b) continue;
                t.each(SORTS[a] + " 0: 1 1; " + SORTS[b] + " 1: 1 1", "shift(0, 0, 1, 0, 1) -> -12", "shift(0, 0, 1, 0, 0) -> -12", "shift(0, 2, 1, 0, 1) -> -12");
            }
        }
        t.run("ints 0: 1 2 3; ints 1: 4 5 6; shift(0, 1, 1, 0, 3) -> -13; element(1, 0) -> 4; element(1, 1) -> 5; element(1, 2) -> 6");
    }

    private static void shiftPlaces(Told t) {
        t.says(41, "-13 a place that is not there;");
        String two = "ints 0: 1 2 3 4 5; ints 1: 10 20 30";
        t.each(two, "shift(0, 5, 1, 0, 0) -> 0", "shift(0, 0, 1, 3, 0) -> 0", "shift(0, 5, 1, 3, 0) -> 0", "shift(0, 5, 0, 5, 0) -> 0", "shift(0, 2, 1, 0, 3) -> 3", "shift(0, 0, 1, 0, 3) -> 3");
        t.each(two, "shift(0, 6, 1, 0, 0) -> -13", "shift(0, 0, 1, 4, 0) -> -13", "shift(0, -1, 1, 0, 0) -> -13", "shift(0, 0, 1, -1, 0) -> -13");
        t.each(two, "shift(0, 5, 1, 0, 1) -> -13", "shift(0, 0, 1, 3, 1) -> -13", "shift(0, 3, 1, 0, 3) -> -13", "shift(0, 0, 1, 1, 3) -> -13", "shift(0, 0, 1, 0, 4) -> -13", "shift(1, 0, 0, 0, 4) -> -13", "shift(1, 0, 0, 3, 3) -> -13");
        t.each(two, "shift(0, -1, 1, 0, 1) -> -13", "shift(0, 0, 1, -1, 1) -> -13", "shift(0, MIN, 1, 0, 1) -> -13", "shift(0, 0, 1, MIN, 1) -> -13", "shift(0, MAX, 1, 0, 1) -> -13", "shift(0, 0, 1, MAX, 1) -> -13",
            "shift(0, 1, 1, 1, MAX) -> -13", "shift(0, MAX, 1, MAX, MAX) -> -13", "shift(0, 0, 0, 0, MAX) -> -13");
        t.each(two, "shift(0, 0, 1, 0, -1) -> -13", "shift(0, 2, 1, 2, -1) -> -13", "shift(0, 0, 1, 0, MIN) -> -13", "shift(0, 5, 0, 5, -5) -> -13");
        t.each("row(0, 2, 0)", "shift(0, 0, 0, 0, 0) -> 0", "shift(0, 0, 0, 0, 1) -> -13", "shift(0, 1, 0, 0, 0) -> -13");
    }

    private static void taken(Told t) {
        t.says(42, "What a SHELF holds, taken for a RELAY of KIND k (0 .. 7), or under it: its KIND. BAD, -11, -12.");
        int[][] above = {{0}, {1, 0}, {2, 0}, {3, 2, 0}, {4, 1, 0}, {5, 3, 2, 0}, {6, 0}, {7, 4, 1, 0}};
        for (int kind = 0; kind < 8; kind++) {
            for (int k = 0; k < 8; k++) {
                boolean under = false;
                for (int a : above[kind]) under |= a == k;
                t.run("body(" + kind + "); keep(0, 0); taken(0, " + k + ") -> " + (under ? kind : -12));
            }
            t.each("body(" + kind + "); keep(0, 0)", "taken(0, 8) -> BAD", "taken(0, -1) -> BAD", "taken(0, MIN) -> BAD", "taken(0, MAX) -> BAD", "taken(1, " + kind + ") -> -11", "taken(5, " + kind + ") -> -11");
        }
        for (String shelf : WRONG_SHELVES) t.run("body(0); keep(0, 0); taken(" + shelf + ", 0) -> BAD");
        for (int k = 0; k < 8; k++) {
            t.run("taken(0, " + k + ") -> -11");
            for (String sort : SORTS) t.run(sort + " 0: 1; taken(0, " + k + ") -> -12");
            t.run("ints 0:; taken(0, " + k + ") -> -12");
        }
        t.each("", "taken(0, 8) -> BAD", "taken(0, -1) -> BAD", "taken(6, 0) -> BAD");
        t.each("ints 0: 1", "taken(0, 8) -> BAD", "taken(0, -1) -> BAD");
    }

    private static void count(Told t) {
        t.says(43, "How many: 0 WORLDS, 1 MESSAGES, 2 of these that came, 3 bytes on THE TAPE, 4 changes that may be UNDONE, 5 BODIES, 6 bodies that ran in the latest act() (all, kept or not). BAD.");
        for (int what = 0; what < 7; what++) t.run("count(" + what + ") -> 0");
        t.each("", "count(-1) -> BAD", "count(7) -> BAD", "count(MIN) -> BAD", "count(MAX) -> BAD");
        t.run("sky 100/1*3; count(0) -> 3; world(100, 0) -> BAD; count(0) -> 3; world(100, 1) *3; count(0) -> 6; world(100, 1) -> FULL; count(0) -> 6");
        t.run("sky 100/1 100/2 100/9; law \"q-r=1\"; send(1) *2; send(2); count(1) -> 3; count(2) -> 0; go(1, 1); count(1) -> 3; count(2) -> 2; send(10); count(1) -> 4; count(2) -> 2; go(1, 1); count(2) -> 3");
        t.run("sky 100/1*2; mend(0, 4, 11); send(1) *10; count(1) -> 10; go(1, 1) -> " + notLost() + "; count(1) -> 10; count(2) -> " + notLost());
        t.run("feed(1); feed(2); count(3) -> 2; feed(256) -> BAD; count(3) -> 2; law() -> -100; count(3) -> 0");
        t.run("feed(49) *120; count(3) -> 120; feed(49) -> FULL; count(3) -> 120");
        t.run("mend(0, 3, 1); mend(0, 4, 1); count(4) -> 2; undo(); count(4) -> 1; redo(); count(4) -> 2; undo(); undo(); count(4) -> 0; undo() -> STATE; count(4) -> 0");
        t.run("body(0) *50; count(5) -> 50; body(0) -> FULL; count(5) -> 50");
        t.run("body(7); act(0, 3, 1); count(6) -> 14; act(0, 0, 1); count(6) -> 2; act(0, 4, 1) -> 0; count(6) -> 0");
    }

    /** By STORM 11 and SEED 1, of ten hands those that are not lost. */
    private static int notLost() {
        int z = 1, came = 0;
        for (int i = 0; i < 10; i++) {
            z = z * 1103515245 + 12345;
            came += (z >>> 8) % 12 < 11 ? 0 : 1;
        }
        return came;
    }
}

/** What is answered by a refusal changes nothing: each by itself, where much stands already. */
final class OfRefusals {
    /** Worlds, law, tape, changes and one undone, messages (one lost, one there, one on its way), an image, bodies, a trace, all that shelves hold. */
    private static final String MUCH = "sky 400/1 602/2 300/3 1207/4; law \"d<150|r=3\"; mend(0, 3, 60); mend(1, 1, 4); mend(3, 0, 6); mend(0, 4, 5); undo(); "
        + "send(1); send(23); send(30); mend(0, 4, 7); mend(2, 2, 8); undo(); go(5, 2); image(); send(12); go(6, 1); tape \"d<\"; body(7); body(3); act(0, 3, 4); "
        + "bytes 0: 3 1 4 2 0; shorts 1: 1 1 1 2 23 0 5; keep(2, 1); booleans 3: 1 0 1; longs 4: -7 9";

    static void tell(Told t) {
        bad(t);
        not(t);
        others(t);
    }

    private static void bad(Told t) {
        t.says(2, "BAD (-1): no such number, or it is not as said; NOT (-2): as told; FULL (-3); STATE (-5): as told; -11 to -14.");
        t.each(MUCH, "world(1300, 1) -> BAD", "world(404, 1) -> BAD", "world(400, 0) -> BAD");
        t.says(3, "What is answered so changes nothing.");
        t.each(MUCH, "worlds(6, 0, 1) -> BAD", "worlds(0, 0, 0) -> BAD", "worlds(0, 0, 7) -> BAD");
        t.says(4, "What is answered so changes nothing.");
        t.each(MUCH, "mend(4, 0, 1) -> BAD", "mend(0, 0, 13) -> BAD", "mend(0, 1, 4) -> BAD", "mend(3, 1, 6) -> BAD", "mend(0, 2, 10) -> BAD", "mend(0, 3, 181) -> BAD", "mend(0, 4, 12) -> BAD", "mend(0, 5, 1) -> BAD", "mend(1, 3, 5) -> BAD");
        t.says(5, "What is answered so changes nothing.");
        t.each(MUCH, "of(4, 0) -> BAD", "of(4, 10) -> BAD", "of(0, 5) -> BAD", "of(0, 24) -> BAD", "of(1, 20) -> BAD");
        t.says(6, "What is answered so changes nothing.");
        t.each(MUCH, "feed(256) -> BAD", "feed(-1) -> BAD");
        int[] promises = {8, 9, 10, 11, 12, 14, 15, 16, 17, 18, 19, 20, 21, 22, 23, 24, 25, 26};
        String[] calls = {"place(4, 0) -> BAD", "sees(4, 0) -> BAD", "sights(1, 2) -> BAD", "blind(4) -> BAD", "next(-1, -1) -> BAD", "joined(4, 0) -> BAD", "lasts(1, 1000000) -> BAD", "unheard(1, 1, 0) -> BAD", "beam(4, 0) -> BAD",
            "soonest(4, 0) -> BAD", "way(1, 0, 601) -> BAD", "hands(1, -1) -> BAD", "waits(1, 2) -> BAD", "relay(1, 130, 0) -> BAD", "safe(1, 0, 12) -> NONE", "judge(6) -> BAD", "stepped(1, 4, 0) -> BAD", "whose(-1) -> BAD"};
        for (int i = 0; i < calls.length; i++) {
            t.says(promises[i], "What is answered so changes nothing.");
            t.run(MUCH + "; " + calls[i]);
        }
        t.says(27, "What is answered so changes nothing.");
        t.each(MUCH, "send(4) -> BAD", "send(22) -> BAD");
        t.says(28, "What is answered so changes nothing.");
        t.each(MUCH, "go(1, 0) -> BAD", "go(1, 100) -> BAD");
        t.says(29, "What is answered so changes nothing.");
        t.each(MUCH, "drawn(1, 0, 0) -> BAD", "drawn(1, 31, 0) -> BAD", "drawn(1, 1, 2) -> BAD");
        shelves(t);
    }

    private static void shelves(Told t) {
        t.says(34, "What is answered so changes nothing.");
        t.each(MUCH, "body(8) -> BAD", "body(-1) -> BAD");
        t.says(36, "What is answered so changes nothing.");
        t.each(MUCH, "trace(14) -> BAD", "trace(-1) -> BAD");
        t.says(37, "What is answered so changes nothing.");
        t.each(MUCH, "keep(0, 2) -> BAD", "keep(0, -2) -> BAD", "keep(6, 0) -> BAD");
        t.says(38, "What is answered so changes nothing.");
        t.each(MUCH, "row(0, 5, 1) -> BAD", "row(0, 0, 61) -> BAD", "row(0, 0, -1) -> -14", "row(2, 1, -1) -> -14", "row(5, 1, -1) -> -14");
        t.says(39, "What is answered so changes nothing.");
        t.each(MUCH, "put(6, 0, 1) -> BAD", "put(5, 0, 1) -> -11", "put(2, 0, 1) -> -12", "put(0, 5, 1) -> -13", "put(0, -1, 1) -> -13");
        t.says(40, "What is answered so changes nothing.");
        t.each(MUCH, "element(6, 0) -> NONE", "element(5, 0) -> NONE", "element(2, 0) -> NONE", "element(0, 5) -> NONE");
        t.says(41, "What is answered so changes nothing.");
        t.each(MUCH, "shift(6, 0, 0, 0, 1) -> BAD", "shift(0, 0, 5, 0, 1) -> -11", "shift(0, 0, 2, 0, 1) -> -12", "shift(0, 0, 3, 0, 1) -> -12", "shift(0, 3, 0, 0, 3) -> -13", "shift(0, 0, 0, 3, 3) -> -13", "shift(0, 0, 0, 2, -1) -> -13");
        t.says(42, "What is answered so changes nothing.");
        t.each(MUCH, "taken(6, 0) -> BAD", "taken(0, 8) -> BAD", "taken(5, 0) -> -11", "taken(0, 0) -> -12", "taken(2, 1) -> -12");
        t.says(43, "What is answered so changes nothing.");
        t.each(MUCH, "count(7) -> BAD", "count(-1) -> BAD");
    }

    private static void not(Told t) {
        String never = MUCH.replace("d<150|r=3", "0");
        int[] promises = {11, 12, 12, 16, 17, 18, 19, 20, 21, 22};
        String[] calls = {"blind(1) -> NOT", "next(1, 0) -> NOT", "next(-1, 0) -> NOT", "unheard(1, 2, 0) -> NOT", "beam(1, 0) -> NOT", "soonest(1, 0) -> NOT", "way(1, 0, 0) -> NOT", "hands(1, 0) -> NOT", "waits(1, 0) -> NOT", "relay(1, 45, 0) -> NOT"};
        for (int i = 0; i < calls.length; i++) {
            t.says(promises[i], "NOT (-2): as told;");
            t.run(never + "; " + calls[i]);
        }
        t.says(23, "Long.MIN_VALUE: BAD, or SOONEST is NOT.");
        t.run(never + "; safe(1, 0, 10) -> NONE");
        t.says(15, "NOT (-2): as told;");
        t.run(MUCH.replace("d<150|r=3", "1") + "; lasts(1, 0) -> NOT");
        t.says(24, "NOT (-2): as told;");
        t.run(MUCH.replace("d<150|r=3", "1").replace("shorts 1: 1 1 1 2 23 0 5", "shorts 1: 1 1 1 2 23 1") + "; judge(1) -> NOT");
        t.says(25, "NOT (-2): as told;");
        t.run(never + "; stepped(1, 0, 1) -> NOT; of(0, 1) -> 0; stepped(1, 3, 1) -> NOT; of(3, 1) -> 7");
    }

    private static void others(Told t) {
        t.says(2, "FULL (-3);");
        t.run(MUCH + "; sky 100/1 100/1; world(100, 1) -> FULL");
        t.says(6, "FULL (-3);");
        t.run(MUCH + "; feed(49) *118; feed(49) -> FULL; law() -> -106");
        t.says(27, "FULL (-3);");
        t.run(MUCH + "; send(1) *6; send(1) -> FULL");
        t.says(34, "FULL (-3);");
        t.run(MUCH + "; body(1) *48; body(1) -> FULL");
        t.says(29, "STATE (-5): as told;");
        t.run("sky 400/1; mend(0, 3, 60); image(); go(1, 2); drawn(1, 1, 0) -> STATE");
        t.says(31, "STATE (-5): as told;");
        t.run(MUCH.replace("image(); ", "") + "; back() -> STATE");
        t.says(32, "STATE (-5): as told;");
        t.run(MUCH + "; undo() *4; undo() -> STATE; redo() -> 4");
        t.says(33, "STATE (-5): as told;");
        t.run(MUCH + "; redo(); redo() -> STATE; undo() -> 4");
        t.says(24, "-11 to -14.");
        t.each(MUCH, "judge(5) -> -11", "judge(0) -> -12", "stepped(5, 0, 0) -> -11", "stepped(2, 0, 0) -> -12", "whose(5) -> -11", "whose(4) -> -12", "worlds(1, 0, 1) -> -12", "worlds(2, 0, 1) -> -12");
    }
}

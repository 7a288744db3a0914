/** Each promise by hand: ordinary inputs, the edges that the document names, and wrong inputs. */
public final class Promises {
    static final int BAD = -1, NOT = -2, FULL = -3, STATE = -5;
    static final long NONE = Long.MIN_VALUE;
    static int wrong = 0, calls = 0, promise = 0;

    static void due(String call, long got, long want) {
        calls++;
        if (got != want) {
            wrong++;
            System.out.println("promise " + promise + ": " + call + " answered " + got + ", due is " + want);
        }
    }

    static int law(BehindBig x, String text) {
        for (int i = 0; i < text.length(); i++) x.feed(text.charAt(i));
        return x.law();
    }

    static BehindBig with(int... worlds) {
        BehindBig x = new BehindBig();
        for (int i = 0; i + 1 < worlds.length; i += 2) x.world(worlds[i], worlds[i + 1]);
        return x;
    }

    static void row(BehindBig x, int shelf, int sort, long... values) {
        x.row(shelf, sort, values.length);
        for (int i = 0; i < values.length; i++) x.put(shelf, i, values[i]);
    }

    public static void main(String[] args) {
        worlds();
        mendings();
        texts();
        laws();
        sights();
        joints();
        messages();
        waits();
        storms();
        books();
        deeds();
        images();
        changes();
        acts();
        shelves();
        counts();
        System.out.println(calls + " calls, " + wrong + " answers are not as due");
        if (wrong != 0) System.exit(1);
    }

    static void worlds() {
        promise = 1;
        BehindBig x = new BehindBig();
        for (int what = 0; what <= 6; what++) due("count(" + what + ")", x.count(what), 0);
        due("of(0, 20)", x.of(0, 20), 30);
        due("of(0, 21)", x.of(0, 21), 0);
        due("of(0, 22)", x.of(0, 22), 0);
        due("of(0, 23)", x.of(0, 23), 1);
        for (int s = 0; s < 6; s++) due("taken(" + s + ", 0)", x.taken(s, 0), -11);
        promise = 2;
        int[][] bad = {{-100, 1}, {0, 1}, {99, 1}, {1300, 1}, {101, 1}, {412, 1}, {404, 1}, {400, 0}, {400, 10}, {400, -1}, {-1, 1},
            {Integer.MIN_VALUE, 1}, {Integer.MAX_VALUE, 1}, {1212, 1}};
        for (int[] b : bad) due("world(" + b[0] + ", " + b[1] + ")", x.world(b[0], b[1]), BAD);
        due("count(0)", x.count(0), 0);
        int[] good = {1211, 100, 403, 1100, 706, 504};
        for (int i = 0; i < 6; i++) {
            due("world(" + good[i] + ")", x.world(good[i], i + 1), i);
            due("of(0)", x.of(i, 0), good[i] / 100);
            due("of(1)", x.of(i, 1), good[i] % 100);
            due("of(2)", x.of(i, 2), i + 1);
        }
        due("world, the seventh", x.world(100, 9), FULL);
        due("world, wrong and the seventh", x.world(100, 10), BAD);
        due("count(0)", x.count(0), 6);
        promise = 3;
        rows();
    }

    static void rows() {
        BehindBig x = new BehindBig();
        due("worlds(-1, 0, 1)", x.worlds(-1, 0, 1), BAD);
        due("worlds(6, 0, 1)", x.worlds(6, 0, 1), BAD);
        due("worlds(0, 0, 0)", x.worlds(0, 0, 0), BAD);
        due("worlds(0, 0, 7)", x.worlds(0, 0, 7), BAD);
        due("worlds of a shelf with nothing", x.worlds(0, 0, 1), 0);
        int[] below = {-1, -2, -3, -6, Integer.MIN_VALUE, Integer.MIN_VALUE + 1};
        for (int i : below) {
            due("worlds of a shelf with nothing, from " + i, x.worlds(0, i, 1), 0);
            due("worlds of no shelf, from " + i, x.worlds(6, i, 1), BAD);
            due("no worlds, from " + i, x.worlds(0, i, 0), BAD);
            due("seven worlds, from " + i, x.worlds(0, i, 7), BAD);
        }
        row(x, 0, 1, 5, 2, 3);
        due("worlds of shorts", x.worlds(0, 0, 1), -12);
        for (int i : below) due("worlds of shorts, from " + i, x.worlds(0, i, 1), -12);
        x.body(0);
        x.keep(1, 0);
        due("worlds of a relay", x.worlds(1, 0, 1), -12);
        for (int i : below) due("worlds of a relay, from " + i, x.worlds(1, i, 1), -12);
        row(x, 2, 0, 5, 2, 3, 6, 1, 9, 12, 11);
        for (int i : below) due("worlds of bytes, from " + i, x.worlds(2, i, 6), 0);
        due("none came from below", x.count(0), 0);
        due("worlds to the row's end", x.worlds(2, 0, 6), 2);
        due("of(1, 0)", x.of(1, 0), 6);
        due("of(1, 2)", x.of(1, 2), 9);
        due("worlds behind the end", x.worlds(2, 8, 1), 0);
        due("worlds far behind the end", x.worlds(2, Integer.MAX_VALUE, 6), 0);
        due("worlds within the last three", x.worlds(2, 6, 1), 0);
        due("worlds from 3 on", x.worlds(2, 3, 1), 1);
        row(x, 2, 0, 3, 0, 1, 3, 3, 1, 3, 0, 1);
        due("worlds to one that is not so", x.worlds(2, 0, 3), 1);
        row(x, 2, 0, 2, 0, 1, 2, 1, 2, 2, 0, 3, 2, 1, 4);
        due("worlds until they are full", x.worlds(2, 0, 4), 2);
        due("worlds when they are full", x.worlds(2, 0, 1), 0);
        due("count(0)", x.count(0), 6);
        due("of(5, 2)", x.of(5, 2), 2);
        BehindBig some = new BehindBig();
        row(some, 0, 0, 1, 0, 1, 1, 0, 2, 1, 0, 3);
        due("worlds, fewer than the row has", some.worlds(0, 0, 2), 2);
        due("worlds, the last three", some.worlds(0, 6, 1), 1);
        due("of(2, 2)", some.of(2, 2), 3);
        row(x, 3, 0);
        due("worlds of an empty row", x.worlds(3, 0, 1), 0);
        row(new BehindBig(), 3, 0);
        BehindBig y = new BehindBig();
        row(y, 0, 0, 261, 0, 1, -3, 0, 1);
        due("worlds of what bytes keep", y.worlds(0, 0, 2), 1);
        due("of(0, 0)", y.of(0, 0), 5);
    }

    static void mendings() {
        promise = 4;
        BehindBig x = with(400, 2, 603, 5);
        due("mend(2, 0, 1)", x.mend(2, 0, 1), BAD);
        due("mend(-1, 0, 1)", x.mend(-1, 0, 1), BAD);
        due("mend(0, -1, 1)", x.mend(0, -1, 1), BAD);
        due("mend(0, 5, 1)", x.mend(0, 5, 1), BAD);
        due("mend(0, 0, 0)", x.mend(0, 0, 0), BAD);
        due("mend(0, 0, 13)", x.mend(0, 0, 13), BAD);
        due("mend(0, 1, 4)", x.mend(0, 1, 4), BAD);
        due("mend(0, 1, -1)", x.mend(0, 1, -1), BAD);
        due("mend(0, 2, 0)", x.mend(0, 2, 0), BAD);
        due("mend(0, 2, 10)", x.mend(0, 2, 10), BAD);
        due("mend(0, 3, -1)", x.mend(0, 3, -1), BAD);
        due("mend(0, 3, 181)", x.mend(0, 3, 181), BAD);
        due("mend(1, 3, 10)", x.mend(1, 3, 10), BAD);
        due("mend(0, 4, 12)", x.mend(0, 4, 12), BAD);
        due("mend(0, 4, -1)", x.mend(0, 4, -1), BAD);
        due("mend(1, 4, 1)", x.mend(1, 4, 1), BAD);
        due("count(4)", x.count(4), 0);
        due("mend(1, 0, 2)", x.mend(1, 0, 2), 6);
        due("a start stands", x.of(1, 1), 3);
        due("what is left counts", x.place(1, 0), 180);
        due("mend(1, 1, 2)", x.mend(1, 1, 2), BAD);
        due("mend(1, 1, 0)", x.mend(1, 1, 0), 3);
        due("mend(1, 2, 1)", x.mend(1, 2, 1), 5);
        due("mend(1, 2, 9)", x.mend(1, 2, 9), 1);
        due("mend(0, 3, 0)", x.mend(0, 3, 0), 30);
        due("mend(0, 4, 11)", x.mend(0, 4, 11), 0);
        due("mend(0, 4, 11) again", x.mend(0, 4, 11), 11);
        due("count(4)", x.count(4), 6);
        promise = 5;
        due("of(0, 3)", x.of(0, 3), 0);
        x.go(0, 5);
        due("of(0, 3) at step 5", x.of(0, 3), 90);
        due("of(1, 3) at step 5", x.of(1, 3), 180);
        due("of(0, 20)", x.of(0, 20), 0);
        due("of(0, 21)", x.of(0, 21), 11);
        due("of(0, 22)", x.of(0, 22), 5);
        due("of(0, 23)", x.of(0, 23), 4);
        int[][] bad = {{2, 0}, {-1, 3}, {0, 5}, {0, 9}, {0, -1}, {0, 10}, {0, 14}, {0, 19}, {1, 20}, {-1, 22}, {0, 24}, {0, Integer.MIN_VALUE}, {0, Integer.MAX_VALUE}};
        for (int[] b : bad) due("of(" + b[0] + ", " + b[1] + ")", x.of(b[0], b[1]), BAD);
    }

    static void texts() {
        promise = 6;
        BehindBig x = new BehindBig();
        due("feed(-1)", x.feed(-1), BAD);
        due("feed(256)", x.feed(256), BAD);
        BehindBig bytes = new BehindBig();
        due("feed(0)", bytes.feed(0), 1);
        due("feed(255)", bytes.feed(255), 2);
        for (int i = 1; i <= 120; i++) due("feed", x.feed(i == 1 ? '(' : 'd'), i);
        due("feed, one more", x.feed('d'), FULL);
        due("feed, one more, wrong", x.feed(300), BAD);
        due("count(3)", x.count(3), 120);
        promise = 7;
        due("law", x.law(), -102);
        due("count(3)", x.count(3), 0);
        due("feed(0)", x.feed(0), 1);
        due("law of byte 0", x.law(), -100);
        String[] good = {"1", "d", "9999", "d+h<181", "d<1|d>5&r=q", "!d", "-d", "--d", "1--1", "((((((d))))))", "!-!-!-d", "(!(!(!d)))",
            "!!!!!!1+------1", "1?2", "1?2;3?4;5", "1;2;3", "(d<1)<2", "d<(1<2)", "a*b/r%q", "1|2|3&4&5", "1<2&2<3|3<4"};
        for (String text : good) due("law of " + text, law(x, text), 1);
        String[] faulty = {"", "+", "d+", "12345", "d?", "d??1", "d?1?1", ";", "1;", "1;;1", "(", "(d", "(d;", "(d?1)", "d)", "()", "1<2<3", "1=2>3",
            "(1<2<3)", "((((((( d", "!!!!!!!1", "-(-(-(-1)))", "d d", "D", "dr", "1d", "d1", "(1)(2)", "(1)1", "1|", "1|&2", "1!2", "1!", "d<", "\u00e9", "1+2)"};
        int[] faults = {0, 0, 2, 4, 2, 2, 3, 0, 2, 2, 1, 2, 2, 2, 1, 1, 3, 3, 4, 6, 6, 6, 1, 0, 1, 1, 1, 3, 3, 2, 2, 1, 1, 2, 0, 3};
        for (int i = 0; i < faulty.length; i++) due("law of " + faulty[i], law(x, faulty[i]), -100 - faults[i]);
        StringBuilder lines = new StringBuilder("0?1");
        while (lines.length() + 4 <= 120) lines.append(";0?1");
        due("law of many lines", law(x, lines.toString()), 1);
    }

    static void laws() {
        promise = 7;
        // Places at step 0: 0, 90 (of rings 2 and 5), and 270 of ring 7.
        BehindBig x = with(400, 2, 401, 5, 403, 7);
        String[] see = {"1", "d=90", "a=0&b=90", "r=2&q=5", "h=30", "-1", "d-89", "2|0", "1&2", "!0", "0?0;1", "1?1;0", "7/2=3", "-7/2=-3",
            "-7%3=-1", "5/0=0", "5%0=0", "(1<2)+(3>2)=2", "!5=0", "1+2*3=7", "(1+2)*3=9", "10-3-2=5", "100/10/5=2", "2*7%4=2", "-2*3=-6",
            "9999*9999*9999<0", "0|0=0", "1|1&0", "2&4=4&1", "!!7=1", "--7=7", "-!0=-1", "5?d;0", "0?1;0?1;d"};
        for (String text : see) {
            due("law of " + text, law(x, text), 1);
            due("sees by " + text, x.sees(1, 0), 1);
        }
        String[] blind = {"0", "d=91", "a=90", "r=5", "0?1", "1?0;1", "0&1", "!7", "5/0", "5%0", "1-1", "2=1", "0|0", "d>90", "d<90", "0?1;0?1;0", "0;1|0?5"};
        for (String text : blind) {
            due("law of " + text, law(x, text), 1);
            due("sees by " + text, x.sees(1, 0), 0);
        }
        law(x, "a=90&b=270&r=5&q=7&d=180");
        due("the lesser number is a", x.sees(12, 0), 1);
        due("the lesser number is a, told the other way", x.sees(21, 0), 1);
        due("a text with a fault", law(x, "0+"), -102);
        due("leaves the law", x.sees(12, 0), 1);
        x.mend(1, 2, 4);
        due("a ring mended", x.sees(12, 0), 0);
        x.undo();
        due("a ring mended and undone", x.sees(12, 0), 1);
        law(x, "h=30");
        due("hide", x.sees(1, 0), 1);
        x.mend(0, 3, 31);
        due("hide mended", x.sees(1, 0), 0);
    }

    static void sights() {
        promise = 8;
        BehindBig x = with(706, 1, 1200, 2);
        due("place(0, 0)", x.place(0, 0), 308);
        due("place(0, 1)", x.place(0, 1), 0);
        due("place(0, 2)", x.place(0, 2), 51);
        due("place(1, 999999)", x.place(1, 999999), 90);
        due("place(1, 1000000)", x.place(1, 1000000), BAD);
        due("place(1, -1)", x.place(1, -1), BAD);
        due("place(2, 0)", x.place(2, 0), BAD);
        due("place(-1, 0)", x.place(-1, 0), BAD);
        promise = 9;
        x = with(1200, 1, 100, 1, 200, 3);
        due("sees at 150", x.sees(1, 5), 1);
        due("sees at 180", x.sees(1, 6), 0);
        due("sees at 150 on the other side", x.sees(10, 7), 1);
        x.mend(0, 3, 31);
        due("sees at 150, hide 31", x.sees(1, 5), 0);
        due("sees at 120, hide 31", x.sees(1, 4), 1);
        x.mend(0, 3, 0);
        due("sees at 180, hide 0", x.sees(1, 6), 1);
        x.mend(0, 3, 180);
        due("sees at 0, hide 180", x.sees(1, 12), 1);
        due("sees at 30, hide 180", x.sees(1, 1), 0);
        int[] badPairs = {0, 11, 3, 13, 30, -1, -10, 100, Integer.MIN_VALUE, Integer.MAX_VALUE};
        for (int pq : badPairs) due("sees(" + pq + ", 0)", x.sees(pq, 0), BAD);
        due("sees(1, -1)", x.sees(1, -1), BAD);
        due("sees(1, 1000000)", x.sees(1, 1000000), BAD);
        promise = 10;
        x.mend(0, 3, 90);
        due("sights(1, 0)", x.sights(1, 0), 7);
        due("sights(10, 1)", x.sights(10, 1), 12);
        x.mend(0, 3, 180);
        due("sights(2, 0)", x.sights(2, 0), 1);
        due("sights(2, 1)", x.sights(2, 1), 12);
        law(x, "0");
        due("sights of none, above", x.sights(1, 0), 0);
        due("sights of none, below", x.sights(1, 1), 1);
        due("sights(1, 2)", x.sights(1, 2), BAD);
        due("sights(1, -1)", x.sights(1, -1), BAD);
        due("sights(11, 0)", x.sights(11, 0), BAD);
        promise = 11;
        due("blind always", x.blind(1), NOT);
        law(x, "a=60");
        due("blind over the round's end", x.blind(1), 11);
        law(x, "1");
        due("blind never", x.blind(1), 0);
        due("blind(22)", x.blind(22), BAD);
        promise = 12;
        law(x, "a=60");
        due("next(1, 2)", x.next(1, 2), 2);
        due("next(1, 3)", x.next(1, 3), 14);
        due("next(1, 999999)", x.next(1, 999999), 1000010);
        due("next(12, 0)", x.next(12, 0), NOT);
        due("next(-1, 0)", x.next(-1, 0), NOT);
        due("next(-2, 0)", x.next(-2, 0), BAD);
        due("next(-1, -1)", x.next(-1, -1), BAD);
        due("next(1, 1000000)", x.next(1, 1000000), BAD);
        due("next of none", new BehindBig().next(-1, 77), 77);
        promise = 13;
        due("all, never", x.all(), 0);
        law(x, "a=60|b=180|a=0&b=0");
        due("all", x.all(), 2);
        due("next(-1, 999997)", x.next(-1, 999997), 999998);
        due("next(-1, 0)", x.next(-1, 0), 0);
        due("all of one world", with(500, 1).all(), 5);
        due("all of none", new BehindBig().all(), 1);
    }

    static void joints() {
        promise = 14;
        // Rings tell who sees whom: 1 with 2, 2 with 3; 5 with nobody.
        BehindBig x = with(1200, 1, 1200, 2, 1200, 3, 1200, 5);
        law(x, "q-r=1");
        due("joined(0, 0)", x.joined(0, 0), 7);
        due("joined(2, 999999)", x.joined(2, 999999), 7);
        due("joined(3, 4)", x.joined(3, 4), 8);
        due("joined(4, 0)", x.joined(4, 0), BAD);
        due("joined(-1, 0)", x.joined(-1, 0), BAD);
        due("joined(0, -1)", x.joined(0, -1), BAD);
        due("joined(0, 1000000)", x.joined(0, 1000000), BAD);
        promise = 15;
        due("lasts for ever", x.lasts(2, 3), NOT);
        due("lasts not", x.lasts(3, 3), 0);
        law(x, "q-r=1&a<120");
        due("lasts(2, 0)", x.lasts(2, 0), 4);
        due("lasts(20, 11)", x.lasts(20, 11), 0);
        due("lasts(20, 999996)", x.lasts(20, 999996), 4);
        due("lasts(0, 0)", x.lasts(0, 0), BAD);
        due("lasts(2, 1000000)", x.lasts(2, 1000000), BAD);
        promise = 16;
        due("unheard(1, 3, 5)", x.unheard(1, 3, 5), 12);
        due("unheard(1, 3, 2)", x.unheard(1, 3, 2), 2);
        due("unheard(1, 2, 0)", x.unheard(1, 2, 0), NOT);
        due("unheard(2, 3, 0)", x.unheard(2, 3, 0), NOT);
        due("unheard(10, 3, 999999)", x.unheard(10, 3, 999999), 999999);
        due("unheard(1, 0, 0)", x.unheard(1, 0, 0), BAD);
        due("unheard(1, 1, 0)", x.unheard(1, 1, 0), BAD);
        due("unheard(1, 4, 0)", x.unheard(1, 4, 0), BAD);
        due("unheard(1, -1, 0)", x.unheard(1, -1, 0), BAD);
        due("unheard(11, 2, 0)", x.unheard(11, 2, 0), BAD);
        due("unheard(1, 3, -1)", x.unheard(1, 3, -1), BAD);
        promise = 17;
        // At step 0 at 0, 60, 30, 330, 300, 180.
        x = with(1200, 1, 1202, 1, 1201, 1, 1211, 1, 1210, 1, 1206, 1);
        due("beam(1, 0)", x.beam(1, 0), 4);
        due("beam(10, 0)", x.beam(10, 0), 4);
        due("beam over 0", x.beam(42, 0), 9);
        due("beam over 0, from the other one", x.beam(24, 0), 9);
        due("beam to the next one", x.beam(2, 0), 0);
        due("beam at 180", x.beam(5, 0), NOT);
        x.mend(0, 3, 0);
        due("beam at 180 that is seen", x.beam(5, 0), 0);
        x.mend(2, 1, 0);
        due("beam at 0", x.beam(2, 0), 0);
        due("beam, one on its end", x.beam(1, 0), 0);
        due("beam(0, 0)", x.beam(0, 0), BAD);
        due("beam(1, -1)", x.beam(1, -1), BAD);
    }

    static void messages() {
        promise = 18;
        // World 0 sees 1 at steps 0, 12, ..; 1 sees 2 at 3, 15, ..; 0 sees 2 at 8, 20, ..
        BehindBig x = with(1200, 1, 1200, 2, 1200, 4);
        law(x, "r=1&q=2?a=0;r=2?a=90;r=1&q=4?a=240");
        due("soonest(2, 0)", x.soonest(2, 0), 4);
        due("soonest(2, 1)", x.soonest(2, 1), 8);
        due("soonest(20, 9)", x.soonest(20, 9), 12);
        due("soonest(1, 1)", x.soonest(1, 1), 12);
        due("soonest(1, 999999)", x.soonest(1, 999999), 10);
        due("soonest(1, 1000000)", x.soonest(1, 1000000), BAD);
        due("soonest(1, -1)", x.soonest(1, -1), BAD);
        due("soonest(22, 0)", x.soonest(22, 0), BAD);
        promise = 19;
        int[] way = {0, 1, 1, 1, 2};
        for (int k = 0; k < 5; k++) due("way(2, 0, " + k + ")", x.way(2, 0, k), way[k]);
        due("way(2, 0, 5)", x.way(2, 0, 5), BAD);
        due("way(2, 0, -1)", x.way(2, 0, -1), BAD);
        due("way(22, 0, 0)", x.way(22, 0, 0), BAD);
        due("way(2, -1, 0)", x.way(2, -1, 0), BAD);
        promise = 20;
        due("hands(2, 0), later but by fewer", x.hands(2, 0), 1);
        due("hands(2, 1000000)", x.hands(2, 1000000), BAD);
        due("hands(0, 0)", x.hands(0, 0), BAD);
        law(x, "r=1&q=2?a=0;r=2?a=90;0");
        due("hands(2, 0)", x.hands(2, 0), 2);
        law(x, "0");
        promise = 18;
        due("soonest, never", x.soonest(1, 0), NOT);
        promise = 19;
        due("way, never", x.way(1, 0, 0), NOT);
        due("way, never and wrong", x.way(1, 0, -1), BAD);
        promise = 20;
        due("hands, never", x.hands(1, 0), NOT);
        promise = 19;
        // All see all but 0 and 3: two steps by 1 or 2; the lesser number is the first.
        x = with(100, 1, 100, 2, 100, 3, 100, 9);
        law(x, "!(r=1&q=9)");
        due("way by the lesser number", x.way(3, 5, 1), 1);
        due("way back by the lesser number", x.way(30, 5, 1), 1);
        law(x, "!(r=1&q=9)&!(r=1&q=2)");
        due("way by the other", x.way(3, 5, 1), 2);
        // Soonest is 3 from 0 to 2 whoever hands it on; the direct way has one hand.
        x = with(400, 1, 400, 2, 400, 4);
        law(x, "a=180&r=1&q=4|a=0&r=1&q=2|a=180&r=2");
        due("soonest(2, 0)", x.soonest(2, 0), 3);
        due("way with fewest hands waits", x.way(2, 0, 1), 0);
        due("way with fewest hands waits", x.way(2, 0, 2), 0);
        due("way with fewest hands comes", x.way(2, 0, 3), 2);
    }

    static void waits() {
        promise = 21;
        BehindBig x = with(1200, 1, 1200, 2, 1200, 4);
        law(x, "r=1&q=2?a=0;r=2?a=90;r=1&q=4?a=240");
        due("waits(1, 0)", x.waits(1, 0), 12);
        due("waits(1, 1)", x.waits(1, 1), 1);
        due("waits(2, 0)", x.waits(2, 0), 8);
        due("waits(2, 1)", x.waits(2, 1), 1);
        due("waits(1, 2)", x.waits(1, 2), BAD);
        due("waits(1, -1)", x.waits(1, -1), BAD);
        due("waits(33, 0)", x.waits(33, 0), BAD);
        // In a round of 12 the two see each other at 0 and 6 alone: the same wait from 1 and from 7.
        BehindBig twice = with(600, 1, 400, 2);
        law(twice, "a=0&b/90%2=0");
        due("waits, like ones", twice.waits(1, 0), 6);
        due("waits, of like ones the first", twice.waits(1, 1), 1);
        x.mend(0, 1, 1);
        due("waits(1, 1) behind a start mended", x.waits(1, 1), 0);
        x.undo();
        due("waits(1, 1) behind it undone", x.waits(1, 1), 1);
        law(x, "0");
        due("waits, never", x.waits(1, 0), NOT);
        due("waits, never, which step", x.waits(1, 1), NOT);
        promise = 22;
        // The two never see each other; the relay is seen by the first only at 0 and by the second only at 180.
        x = with(100, 1, 100, 2);
        law(x, "r=1&q=2?0;q=5?r=1&b=0|r=2&b=180");
        due("relay(1, 45, 0)", x.relay(1, 45, 0), 0);
        due("relay(1, 45, 1)", x.relay(1, 45, 1), 6);
        due("relay of another ring", x.relay(1, 46, 0), NOT);
        due("relay of another ring, the wait", x.relay(1, 46, 1), NOT);
        due("relay that never comes to 180", x.relay(1, 35, 1), NOT);
        due("relay(10, 25, 1)", x.relay(10, 25, 1), 3);
        // The first is at 0 with the relay once in 4 steps; which START serves it best is a matter of the start.
        x = with(400, 1, 400, 2);
        law(x, "q=2?0;r=1&q=5&a=0&b=90|r=2&q=5&a=90&b=180");
        due("relay with the one start that serves", x.relay(1, 45, 0), 1);
        due("relay, its wait", x.relay(1, 45, 1), 5);
        due("relay, PERIOD 13", x.relay(1, 131, 0), BAD);
        due("relay, RING 0", x.relay(1, 120, 0), BAD);
        due("relay, PERIOD 0", x.relay(1, 9, 0), BAD);
        due("relay, below 0", x.relay(1, -45, 0), BAD);
        due("relay, what 2", x.relay(1, 45, 2), BAD);
        due("relay, what -1", x.relay(1, 45, -1), BAD);
        due("relay of one", x.relay(11, 45, 0), BAD);
        due("no world is left", x.count(0), 2);
        due("the round is as it was", x.of(0, 23), 4);
        x = with(100, 1, 100, 1, 100, 1, 100, 1, 100, 1, 200, 1);
        due("relay beside six, of like starts the least", x.relay(1, 121, 0), 0);
        due("relay beside six, the wait", x.relay(1, 121, 1), 1);
    }

    static void storms() {
        promise = 23;
        BehindBig x = with(100, 1, 100, 2, 100, 3);
        law(x, "q-r=1");
        due("safe without a storm", x.safe(2, 0, 10), 1);
        due("safe without a storm", x.safe(2, 0, 21), 1);
        x.mend(0, 4, 3);
        due("safe(1, 0, 10)", x.safe(1, 0, 10), 3);
        due("safe(1, 0, 11)", x.safe(1, 0, 11), 4);
        due("safe(2, 0, 10)", x.safe(2, 0, 10), 9);
        due("safe(2, 0, 11)", x.safe(2, 0, 11), 16);
        due("safe(2, 0, 20)", x.safe(2, 0, 20), 207);
        due("safe(2, 0, 21)", x.safe(2, 0, 21), 256);
        int[] bad = {0, 1, 9, 12, 19, 22, 30, 31, -10, Integer.MIN_VALUE, Integer.MAX_VALUE};
        for (int tp : bad) due("safe(2, 0, " + tp + ")", x.safe(2, 0, tp), NONE);
        due("safe(22, 0, 10)", x.safe(22, 0, 10), NONE);
        due("safe(2, -1, 10)", x.safe(2, -1, 10), NONE);
        due("safe(2, 1000000, 10)", x.safe(2, 1000000, 10), NONE);
        law(x, "0");
        due("safe, never", x.safe(2, 0, 10), NONE);
        x = with(100, 1, 100, 2, 100, 3, 100, 4, 100, 5, 100, 6);
        law(x, "q-r=1");
        x.mend(0, 4, 11);
        due("safe by five hands", x.safe(5, 0, 11), 248832);
        due("safe by five hands, twice", x.safe(5, 0, 20), 497663);
        due("safe by five hands, twice", x.safe(5, 0, 21), 61917364224L);
    }

    static void books() {
        promise = 24;
        BehindBig x = with(1200, 1, 1200, 2);
        law(x, "d=30");
        due("judge(-1)", x.judge(-1), BAD);
        due("judge(6)", x.judge(6), BAD);
        due("judge of nothing", x.judge(0), -11);
        row(x, 0, 2, 0, 1, 0);
        due("judge of ints", x.judge(0), -12);
        x.body(0);
        x.keep(0, 0);
        due("judge of a relay", x.judge(0), -12);
        row(x, 0, 1);
        due("judge of an empty book", x.judge(0), NOT);
        row(x, 0, 1, 5, 1, 0, 7, 10, 0);
        due("judge of a true book", x.judge(0), NOT);
        row(x, 0, 1, 5, 1, 0, 7, 10, 1);
        due("judge of a wrong sight", x.judge(0), 1);
        row(x, 0, 1, 5, 1, 0, -7, 10, 0, 5, 1, 0);
        due("judge of no such step", x.judge(0), 1);
        row(x, 0, 1, 5, 1, 0, 5, 1, 0, 5, 12, 0);
        due("judge of no such worlds", x.judge(0), 2);
        row(x, 0, 1, 5, 11, 0);
        due("judge of one world", x.judge(0), 0);
        row(x, 0, 1, 5, 1, 2);
        due("judge of no 0 or 1", x.judge(0), 0);
        row(x, 0, 1, 5, 1, 0, 5, 1);
        due("judge of an end that lacks", x.judge(0), 1);
        promise = 25;
        row(x, 0, 1, 0, 1, 1);
        due("stepped(0, 0, 0)", x.stepped(0, 0, 0), 2);
        due("stepped(0, 0, 1)", x.stepped(0, 0, 1), 1);
        due("the start is as it was", x.of(0, 1), 0);
        row(x, 0, 1, 0, 1, 1, 1, 1, 0);
        due("stepped by none", x.stepped(0, 0, 0), 0);
        due("stepped by none, the first", x.stepped(0, 0, 1), NOT);
        row(x, 1, 1);
        due("stepped by an empty book", x.stepped(1, 0, 0), 12);
        due("stepped by an empty book", x.stepped(1, 0, 1), 0);
        due("stepped(6, 0, 0)", x.stepped(6, 0, 0), BAD);
        due("stepped(0, 2, 0)", x.stepped(0, 2, 0), BAD);
        due("stepped(0, -1, 0)", x.stepped(0, -1, 0), BAD);
        due("stepped(0, 0, 2)", x.stepped(0, 0, 2), BAD);
        due("stepped of nothing", x.stepped(2, 0, 0), -11);
        due("stepped of nothing, wrong", x.stepped(2, 5, 0), BAD);
        row(x, 2, 0, 1, 1, 1);
        due("stepped of bytes", x.stepped(2, 0, 0), -12);
        promise = 26;
        row(x, 0, 1, 0, 1, 1);
        due("whose, both", x.whose(0), 3);
        x = with(1200, 1, 100, 2, 1205, 3);
        law(x, "a=30|q=3&b=30");
        row(x, 0, 1, 1, 1, 1);
        due("whose, others whom the book leaves free", x.whose(0), 4);
        row(x, 0, 1, 2, 1, 1);
        due("whose, the one", x.whose(0), 1);
        row(x, 0, 1, 2, 1);
        due("whose, none", x.whose(0), 0);
        due("whose(-1)", x.whose(-1), BAD);
        due("whose of nothing", x.whose(3), -11);
        row(x, 3, 4, 1, 1, 1);
        due("whose of booleans", x.whose(3), -12);
        x = with(1205, 1, 100, 1);
        x.mend(0, 0, 4);
        law(x, "a=90");
        row(x, 0, 1, 0, 1, 1);
        due("stepped, a start above the period", x.stepped(0, 0, 1), 1);
        due("whose, what is left of a start is its own", x.whose(0), 0);
    }

    static void deeds() {
        promise = 27;
        BehindBig x = with(1200, 1, 1200, 2, 1200, 4);
        law(x, "r=1&q=2?a=0;r=2?a=90;r=1&q=4?a=240");
        due("send(0)", x.send(0), BAD);
        due("send(3)", x.send(3), BAD);
        due("send(-1)", x.send(-1), BAD);
        due("send(2)", x.send(2), 0);
        due("send(10)", x.send(10), 1);
        due("of(0, 10)", x.of(0, 10), 0);
        due("of(0, 11)", x.of(0, 11), 2);
        due("of(0, 12)", x.of(0, 12), 0);
        due("of(0, 13)", x.of(0, 13), NOT);
        due("of(1, 10)", x.of(1, 10), 1);
        promise = 28;
        due("go(0, 0)", x.go(0, 0), BAD);
        due("go(0, -1)", x.go(0, -1), BAD);
        due("go(0, 100)", x.go(0, 100), BAD);
        due("go(0, 1)", x.go(0, 1), 1);
        due("of(0, 12)", x.of(0, 12), 1);
        due("of(1, 13)", x.of(1, 13), 1);
        due("of(0, 4)", x.of(0, 4), 1);
        due("of(1, 4)", x.of(1, 4), 1);
        due("go(0, 3)", x.go(0, 3), 1);
        due("of(0, 12)", x.of(0, 12), 2);
        due("of(0, 13)", x.of(0, 13), 4);
        due("of(1, 4)", x.of(1, 4), 2);
        due("of(0, 22)", x.of(0, 22), 4);
        due("go(0, 99)", x.go(0, 99), 0);
        due("of(0, 22)", x.of(0, 22), 103);
        due("count(2)", x.count(2), 2);
        promise = 27;
        for (int i = 2; i < 10; i++) due("send(1)", x.send(1), i);
        due("send, the eleventh", x.send(1), FULL);
        due("send, the eleventh, wrong", x.send(11), BAD);
        promise = 28;
        chances();
        law(x, "0");
        due("go where nobody sees", x.go(1, 9), 0);
        due("of(2, 12)", x.of(2, 12), 0);
        promise = 29;
        due("drawn(1, 0, 0)", x.drawn(1, 0, 0), BAD);
        due("drawn(1, 31, 0)", x.drawn(1, 31, 0), BAD);
        due("drawn(1, 1, 2)", x.drawn(1, 1, 2), BAD);
        due("drawn(1, 1, -1)", x.drawn(1, 1, -1), BAD);
        due("drawn of NOT alone", x.drawn(1, 30, 0), 0);
        due("drawn of NOT alone", x.drawn(1, 30, 1), 30);
        due("drawn of one world", with(100, 1).drawn(1, 1, 0), STATE);
        due("drawn of one world, wrong", with(100, 1).drawn(1, 0, 0), BAD);
        due("drawn by two that always see", with(100, 1, 100, 1).drawn(-77, 30, 0), 30);
        due("drawn moves nothing", x.of(0, 22), 112);
    }

    /** By every STORM and several SEEDS: ten messages of one hand each, lost by z as the document tells it. */
    static void chances() {
        for (int storm = 0; storm < 12; storm++) {
            int seed = 1000 * storm - 5000;
            BehindBig x = with(100, 1, 100, 2);
            x.mend(0, 4, storm);
            for (int i = 0; i < 10; i++) x.send(i % 2 == 0 ? 1 : 10);
            int z = seed, came = 0;
            boolean[] lost = new boolean[10];
            for (int i = 0; i < 10; i++) {
                z = z * 1103515245 + 12345;
                lost[i] = (z >>> 8) % 12 < storm;
                came += lost[i] ? 0 : 1;
            }
            due("go(" + seed + ", 2)", x.go(seed, 2), came);
            for (int i = 0; i < 10; i++) {
                due("who has it", x.of(i, 12), lost[i] ? NOT : i % 2 == 0 ? 1 : 0);
                due("CAME", x.of(i, 13), lost[i] ? NOT : 1);
            }
            due("LED, lost ones, too", x.of(0, 4), 5);
            due("LED, lost ones, too", x.of(1, 4), 5);
        }
    }

    static void images() {
        promise = 31;
        BehindBig x = with(100, 1, 100, 2);
        due("back", x.back(), STATE);
        x.send(1);
        x.go(1, 3);
        promise = 30;
        due("image", x.image(), 3);
        promise = 31;
        x.world(100, 3);
        x.send(21);
        x.send(10);
        x.mend(0, 3, 7);
        x.go(1, 4);
        due("of(2, 4)", x.of(2, 4), 1);
        due("back", x.back(), 3);
        due("of(0, 22)", x.of(0, 22), 3);
        due("count(1)", x.count(1), 1);
        due("count(2)", x.count(2), 1);
        due("of(0, 13)", x.of(0, 13), 1);
        due("of(0, 4)", x.of(0, 4), 1);
        due("of(1, 4)", x.of(1, 4), 0);
        due("a world that came since has led none", x.of(2, 4), 0);
        due("worlds stay", x.count(0), 3);
        due("changes stay", x.of(0, 20), 7);
        due("the next message's number", x.send(12), 1);
        x.go(1, 9);
        due("back again", x.back(), 3);
        due("count(1)", x.count(1), 1);
        x.go(1, 2);
        promise = 30;
        due("a later image", x.image(), 5);
        x.go(1, 2);
        due("back", x.back(), 5);
    }

    static void changes() {
        promise = 32;
        BehindBig x = with(400, 1, 500, 2);
        due("undo", x.undo(), STATE);
        promise = 33;
        due("redo", x.redo(), STATE);
        promise = 32;
        x.mend(0, 0, 6);
        x.mend(0, 1, 5);
        x.mend(0, 0, 3);
        x.mend(1, 2, 9);
        x.mend(0, 3, 40);
        x.mend(0, 4, 4);
        due("count(4)", x.count(4), 6);
        due("undo", x.undo(), 5);
        due("of(0, 21)", x.of(0, 21), 0);
        due("undo", x.undo(), 4);
        due("of(0, 20)", x.of(0, 20), 30);
        due("undo", x.undo(), 3);
        due("of(1, 2)", x.of(1, 2), 2);
        due("undo", x.undo(), 2);
        due("of(0, 0)", x.of(0, 0), 6);
        due("undo", x.undo(), 1);
        due("of(0, 1)", x.of(0, 1), 0);
        promise = 33;
        due("redo", x.redo(), 4);
        due("of(0, 1)", x.of(0, 1), 5);
        due("redo", x.redo(), 3);
        due("of(0, 0)", x.of(0, 0), 3);
        due("a start undone stands", x.of(0, 1), 5);
        due("the same number is no change", x.mend(0, 0, 3), 3);
        x.world(700, 3);
        due("redo all the same", x.redo(), 2);
        due("mend", x.mend(2, 0, 8), 7);
        due("redo behind another change", x.redo(), STATE);
        due("count(4)", x.count(4), 5);
        promise = 32;
        for (int i = 0; i < 60; i++) x.mend(0, 3, 100 + i);
        due("count(4), at most 40", x.count(4), 40);
        for (int i = 39; i >= 0; i--) due("undo", x.undo(), i);
        due("undo, no more", x.undo(), STATE);
        due("the oldest that was kept", x.of(0, 20), 119);
        promise = 33;
        for (int i = 39; i >= 0; i--) due("redo", x.redo(), i);
        due("redo, no more", x.redo(), STATE);
        due("of(0, 20)", x.of(0, 20), 159);
        BehindBig y = with(100, 1, 100, 1);
        for (int i = 0; i < 45; i++) y.mend(i % 2, i % 4 == 0 ? 0 : 2, 1 + (i + 5) % 9);
        int[] then = {y.of(0, 0), y.of(0, 2), y.of(1, 0), y.of(1, 2)};
        int kept = y.count(4);
        for (int i = 0; i < kept; i++) y.undo();
        due("undo beyond what is kept", y.undo(), STATE);
        for (int i = 0; i < kept; i++) y.redo();
        due("all done again", y.of(0, 0), then[0]);
        due("all done again", y.of(0, 2), then[1]);
        due("all done again", y.of(1, 0), then[2]);
        due("all done again", y.of(1, 2), then[3]);
    }

    static void acts() {
        promise = 34;
        BehindBig x = new BehindBig();
        due("body(-1)", x.body(-1), BAD);
        due("body(8)", x.body(8), BAD);
        for (int i = 0; i < 50; i++) due("body", x.body(i % 8), i);
        due("body, one more", x.body(0), FULL);
        due("body, one more, wrong", x.body(8), BAD);
        promise = 35;
        // RELAY 8: sees x+8, sends 2(x+8), turns x^8, tells 2(x+8) - 9.
        run(x, 8, 0, 5, 13, 1);
        run(x, 8, 1, 5, 26, 10, 1);
        run(x, 8, 2, 5, 13, 11);
        run(x, 8, 3, 5, 17, 2, 10, 1, 11);
        // NEAR 1.
        run(x, 1, 0, 5, 9, 20, 1);
        run(x, 1, 3, 5, 18, 2, 10, 20, 1, 11);
        // DARK 2.
        run(x, 2, 1, 5, -14, 30, 10, 1);
        run(x, 2, 3, 5, -17, 2, 30, 10, 1, 11);
        // BEAMED 3.
        run(x, 3, 1, 5, -18, 41, 30, 10, 1);
        run(x, 3, 2, 5, 18, 40, 11);
        run(x, 3, 3, 5, -24, 2, 41, 30, 10, 1, 40, 11);
        // FAR 4: sees x+7; turns (x^4) - 9.
        run(x, 4, 2, 5, -8, 50, 11, 20, 1);
        run(x, 4, 1, 5, 24, 10, 20, 1);
        // STORMED 5: tells (2: sends - turns(1)) ^ 5 = (-2(6+5) - 3(1^5)) ^ 5.
        run(x, 5, 3, 5, -34 ^ 5, 60, 2, 41, 30, 10, 1, 40, 11);
        // STORED 6.
        run(x, 6, 0, 5, 22, 70, 1);
        run(x, 6, 1, 5, 44, 10, 70, 1);
        // LOST 7: sees x+10; turns (x^7) - 12; sends 2(x+10) + (5 - 12); tells sends - (6 - 12) - 1.
        run(x, 7, 1, 5, 23, 80, 10, 20, 1, 50, 11, 20, 1);
        run(x, 7, 3, 5, 28, 81, 2, 80, 10, 20, 1, 50, 11, 20, 1, 50, 11, 20, 1);
        run(x, 8, 1, Integer.MAX_VALUE, (Integer.MAX_VALUE + 8) * 2, 10, 1);
        int[][] none = {{50, 0}, {-1, 0}, {0, 4}, {0, -1}};
        for (int[] b : none) {
            promise = 35;
            x.act(0, 3, 1);
            due("act of none", x.act(b[0], b[1], 7), 0);
            due("count(6)", x.count(6), 0);
            promise = 36;
            due("trace(0)", x.trace(0), BAD);
        }
        due("trace(-1)", x.trace(-1), BAD);
        due("trace of a new object", new BehindBig().trace(0), BAD);
        due("act of a new object", new BehindBig().act(0, 0, 1), 0);
    }

    static void run(BehindBig x, int body, int act, int v, int want, int... bodies) {
        promise = 35;
        due("act(" + body + ", " + act + ", " + v + ")", x.act(body, act, v), want);
        due("count(6)", x.count(6), bodies.length);
        promise = 36;
        for (int i = 0; i < bodies.length; i++) due("trace(" + i + ") of act(" + body + ", " + act + ")", x.trace(i), bodies[i]);
        due("trace behind the end", x.trace(bodies.length), BAD);
    }

    static void shelves() {
        BehindBig x = new BehindBig();
        x.body(7);
        x.body(2);
        promise = 37;
        due("keep(-1, 0)", x.keep(-1, 0), BAD);
        due("keep(6, 0)", x.keep(6, 0), BAD);
        due("keep(0, 2)", x.keep(0, 2), BAD);
        due("keep(0, -2)", x.keep(0, -2), BAD);
        due("keep(0, 0)", x.keep(0, 0), 1);
        due("keep(5, 1)", x.keep(5, 1), 1);
        promise = 42;
        int[] lost = {7, 7, -12, -12, 7, -12, -12, 7};
        int[] dark = {2, -12, 2, -12, -12, -12, -12, -12};
        for (int k = 0; k < 8; k++) {
            due("taken(0, " + k + ")", x.taken(0, k), lost[k]);
            due("taken(5, " + k + ")", x.taken(5, k), dark[k]);
        }
        due("taken(0, 8)", x.taken(0, 8), BAD);
        due("taken(0, -1)", x.taken(0, -1), BAD);
        due("taken(6, 0)", x.taken(6, 0), BAD);
        due("taken of nothing", x.taken(1, 0), -11);
        promise = 37;
        due("keep(5, -1)", x.keep(5, -1), 1);
        due("taken of what is gone", x.taken(5, 2), -11);
        promise = 38;
        due("row(-1, 0, 1)", x.row(-1, 0, 1), BAD);
        due("row(6, 0, 1)", x.row(6, 0, 1), BAD);
        due("row(0, -1, 1)", x.row(0, -1, 1), BAD);
        due("row(0, 5, 1)", x.row(0, 5, 1), BAD);
        due("row(0, 0, 61)", x.row(0, 0, 61), BAD);
        due("row(0, 0, -1)", x.row(0, 0, -1), -14);
        due("row(0, 5, -1)", x.row(0, 5, -1), BAD);
        due("nothing has changed", x.taken(0, 7), 7);
        for (int sort = 0; sort < 5; sort++) due("row(" + sort + ", " + sort + ", 60)", x.row(sort, sort, 60), 1);
        promise = 42;
        due("taken of a row", x.taken(0, 0), -12);
        rowElements(x);
        shifts();
    }

    static void rowElements(BehindBig x) {
        promise = 39;
        long[] values = {0x123456789ABCDEF0L, -1, 255, 1L << 32, 1L << 63, 40000, 128};
        for (long v : values) {
            long[] kept = {(byte) v, (short) v, (int) v, v, v != 0 ? 1 : 0};
            for (int sort = 0; sort < 5; sort++) {
                promise = 39;
                due("put(" + sort + ", 59, " + v + ")", x.put(sort, 59, v), 1);
                promise = 40;
                due("element(" + sort + ", 59)", x.element(sort, 59), kept[sort]);
                due("element(" + sort + ", 58)", x.element(sort, 58), 0);
            }
        }
        promise = 39;
        due("put(-1, 0, 1)", x.put(-1, 0, 1), BAD);
        due("put(6, 0, 1)", x.put(6, 0, 1), BAD);
        due("put to nothing", x.put(5, 0, 1), -11);
        due("put behind the end", x.put(0, 60, 1), -13);
        due("put ahead of the row", x.put(0, -1, 1), -13);
        x.keep(5, 0);
        due("put to a relay", x.put(5, 0, 1), -12);
        promise = 40;
        due("element of a relay", x.element(5, 0), NONE);
        due("element(6, 0)", x.element(6, 0), NONE);
        due("element behind the end", x.element(0, 60), NONE);
        due("element ahead of the row", x.element(0, -1), NONE);
        x.keep(5, -1);
        due("element of nothing", x.element(5, 0), NONE);
        promise = 38;
        x.row(0, 0, 60);
        due("a new row is 0", x.element(0, 59), 0);
        x.row(0, 0, 0);
        due("an empty row", x.element(0, 0), NONE);
    }

    static void shifts() {
        promise = 41;
        BehindBig x = new BehindBig();
        row(x, 0, 2, 1, 2, 3, 4, 5);
        row(x, 1, 2, 10, 20, 30);
        row(x, 2, 3, 10, 20, 30);
        x.body(0);
        x.keep(3, 0);
        due("shift to another one", x.shift(0, 1, 1, 0, 2), 2);
        due("element(1, 0)", x.element(1, 0), 2);
        due("element(1, 1)", x.element(1, 1), 3);
        due("element(1, 2)", x.element(1, 2), 30);
        due("shift within, on", x.shift(0, 0, 0, 1, 4), 4);
        int[] on = {1, 1, 2, 3, 4};
        for (int i = 0; i < 5; i++) due("element(0, " + i + ")", x.element(0, i), on[i]);
        due("shift within, back", x.shift(0, 1, 0, 0, 4), 4);
        int[] back = {1, 2, 3, 4, 4};
        for (int i = 0; i < 5; i++) due("element(0, " + i + ")", x.element(0, i), back[i]);
        due("shift of none at the end", x.shift(0, 5, 1, 3, 0), 0);
        due("shift of none behind the end", x.shift(0, 6, 1, 0, 0), -13);
        due("shift, too many", x.shift(0, 4, 1, 0, 2), -13);
        due("shift, too many there", x.shift(0, 0, 1, 1, 3), -13);
        due("shift from below 0", x.shift(0, -1, 1, 0, 1), -13);
        due("shift to below 0", x.shift(0, 0, 1, -1, 1), -13);
        due("shift of fewer than none", x.shift(0, 0, 1, 0, -1), -13);
        due("shift of very many", x.shift(0, 1, 1, 0, Integer.MAX_VALUE), -13);
        due("shift, unlike sorts", x.shift(0, 0, 2, 0, 1), -12);
        due("shift, unlike sorts, no place", x.shift(0, 9, 2, 0, 1), -12);
        due("shift of a relay", x.shift(3, 0, 0, 0, 1), -12);
        due("shift to a relay", x.shift(0, 0, 3, 0, 1), -12);
        due("shift from nothing", x.shift(4, 0, 0, 0, 1), -11);
        due("shift to nothing", x.shift(0, 0, 4, 0, 1), -11);
        due("shift of a relay to nothing", x.shift(3, 0, 4, 0, 1), -11);
        due("shift(6)", x.shift(6, 0, 0, 0, 1), BAD);
        due("shift to 6", x.shift(4, 0, 6, 0, 1), BAD);
        due("element(1, 0)", x.element(1, 0), 2);
    }

    static void counts() {
        promise = 43;
        BehindBig x = with(100, 1, 100, 1);
        x.send(1);
        x.send(10);
        x.send(1);
        due("count(2)", x.count(2), 0);
        x.go(3, 1);
        x.send(1);
        x.feed('d');
        x.mend(0, 3, 4);
        x.body(5);
        x.act(0, 3, 1);
        int[] want = {2, 4, 3, 1, 1, 1, 8};
        for (int i = 0; i < 7; i++) due("count(" + i + ")", x.count(i), want[i]);
        due("count(7)", x.count(7), BAD);
        due("count(-1)", x.count(-1), BAD);
        x.undo();
        due("count(4)", x.count(4), 0);
    }
}

import java.util.ArrayList;
import java.util.Arrays;
import java.util.List;
import java.util.Random;

/**
 * Random runs of calls, each answered by BehindBig and by Plain, a slow class that follows the document word by word
 * and shares no code with it.
 */
public final class AgainstPlain {
    static final int BAD = -1, NOT = -2, FULL = -3, STATE = -5;
    static int wrong = 0;
    static long calls = 0;

    public static void main(String[] args) {
        int runs = args.length > 0 ? Integer.parseInt(args[0]) : 600;
        long seed = args.length > 1 ? Long.parseLong(args[1]) : 20261118L;
        for (int run = 0; run < runs && wrong < 20; run++) {
            new Run(run, new Random(seed + run)).go();
        }
        slowChain();
        faults(new Random(seed));
        System.out.println(calls + " calls, " + wrong + " answers are not as due");
        if (wrong != 0) System.exit(1);
    }

    static void due(String where, String call, long got, long want) {
        calls++;
        if (got != want) {
            wrong++;
            System.out.println(where + ": " + call + " answered " + got + ", due is " + want);
        }
    }

    /** Worlds in a chain, each two meeting once in 132 steps, the later ones just too early: ways on both sides of 600. */
    static void slowChain() {
        BehindBig x = new BehindBig();
        Plain y = new Plain();
        for (int w = 0, meets = 0; w < 6; w++) {
            int p = w % 2 == 0 ? 11 : 12, start = Math.floorMod(-meets, p);
            due("chain", "world", x.world(100 * p + start, w + 1), y.world(100 * p + start, w + 1));
            if (w > 0) meets = Math.floorMod(meets + (w % 2 == 1 ? 120 : 121), 132);
        }
        for (char c : "a=0&b=0&r+1=q".toCharArray()) due("chain", "feed", x.feed(c), y.feed(c));
        due("chain", "law", x.law(), y.law());
        int never = 0, late = 0;
        for (int t = 0; t < 132; t++) {
            int soon = y.soonest(5, t);
            never += soon == NOT ? 1 : 0;
            late += soon > 590 ? 1 : 0;
            due("chain", "soonest(5, " + t + ")", x.soonest(5, t), soon);
            due("chain", "hands(5, " + t + ")", x.hands(5, t), y.hands(5, t));
            due("chain", "way(5, " + t + ", 0)", x.way(5, t, 0), soon == NOT ? NOT : 0);
            due("chain", "way(5, " + t + ", 600)", x.way(5, t, 600), soon == NOT ? NOT : soon == 600 ? 5 : BAD);
            due("chain", "soonest(50, " + t + ")", x.soonest(50, t), y.soonest(50, t));
        }
        due("chain", "ways that never end are met", never > 0 ? 1 : 0, 1);
        due("chain", "ways that just end are met", late > 5 ? 1 : 0, 1);
        for (int what = 0; what < 2; what++) {
            due("chain", "waits(5, " + what + ")", x.waits(5, what), NOT);
            due("chain", "waits(4, " + what + ")", x.waits(4, what), y.waits(4, what));
            due("chain", "waits(50, " + what + ")", x.waits(50, what), y.waits(50, what));
            due("chain", "relay(4, 33, " + what + ")", x.relay(4, 33, what), y.relay(4, 33, what));
            due("chain", "relay(5, 41, " + what + ")", x.relay(5, 41, what), NOT);
        }
    }

    /** Texts of all lengths against a reader that only knows what may come next. */
    static void faults(Random random) {
        BehindBig x = new BehindBig();
        for (int i = 0; i < 60000 && wrong < 20; i++) {
            String text = Laws.any(random);
            for (int k = 0; k < text.length(); k++) x.feed(text.charAt(k));
            int fault = Laws.fault(text);
            due("texts", "law of " + text, x.law(), fault < 0 ? 1 : -100 - fault);
        }
    }

    /** One run: the same calls to both. */
    static final class Run {
        final Random random;
        final int number;
        final BehindBig x = new BehindBig();
        final Plain y = new Plain();
        final boolean small;

        Run(int number, Random random) {
            this.number = number;
            this.random = random;
            this.small = number % 12 != 0;
        }

        int upTo(int n) { return random.nextInt(n); }

        int pq() {
            if (upTo(25) == 0) return upTo(90) - 12;
            int n = Math.max(2, y.worlds.size());
            int p = upTo(n), q = upTo(n);
            if (p == q && upTo(10) != 0) q = (q + 1) % n;
            return 10 * p + q;
        }

        int step() {
            int k = upTo(30);
            if (k == 0) return 999999 - upTo(3);
            if (k == 1) return upTo(4) - 2;
            if (k == 2) return 1000000;
            return upTo(k < 15 ? 30 : 40000);
        }

        int world() { return upTo(20) == 0 ? upTo(10) - 2 : upTo(Math.max(1, y.worlds.size())); }

        int period() {
            int[] few = {1, 2, 3, 4, 6, 12, 8, 4, 6, 3, 5, 10};
            return small ? few[upTo(few.length)] : 1 + upTo(12);
        }

        int what(int n) { return upTo(15) == 0 ? upTo(n + 3) - 1 : upTo(n); }

        int shelf() { return upTo(20) == 0 ? upTo(9) - 2 : upTo(6); }

        void say(String call, long got, long want) { due("run " + number, call, got, want); }

        void go() {
            int first = upTo(7);
            for (int i = 0; i < first; i++) addWorld();
            int n = 40 + upTo(470);
            for (int i = first; i < n && wrong < 20; i++) one();
        }

        void addWorld() {
            int p = period(), ps = upTo(12) == 0 ? upTo(1400) - 50 : p * 100 + upTo(p), ring = upTo(12) == 0 ? upTo(12) - 1 : 1 + upTo(9);
            say("world(" + ps + ", " + ring + ")", x.world(ps, ring), y.world(ps, ring));
        }

        void one() {
            int kind = upTo(100);
            if (kind < 4) { addWorld(); return; }
            if (kind < 12) { mend(); return; }
            if (kind < 15) { law(); return; }
            if (kind < 40) { sight(); return; }
            if (kind < 56) { message(); return; }
            if (kind < 66) { book(); return; }
            if (kind < 80) { deed(); return; }
            shelves();
        }

        void mend() {
            int what = what(5), number = what >= 3 ? (upTo(10) == 0 ? 1 : 0) : world();
            int v = what == 0 ? period() : what == 1 ? upTo(12) : what == 2 ? 1 + upTo(9) : what == 3 ? 60 + upTo(121) : upTo(12);
            if (upTo(12) == 0) v = upTo(200) - 5;
            say("mend(" + number + ", " + what + ", " + v + ")", x.mend(number, what, v), y.mend(number, what, v));
        }

        void law() {
            String text = upTo(3) == 0 ? Laws.any(random) : Laws.good(random);
            for (int i = 0; i < text.length(); i++) say("feed", x.feed(text.charAt(i)), y.feed(text.charAt(i)));
            if (upTo(6) == 0) { int l = upTo(300) - 20; say("feed(" + l + ")", x.feed(l), y.feed(l)); }
            if (upTo(8) != 0) say("law " + text, x.law(), y.law());
        }

        void sight() {
            int pq = pq(), t = step(), w = world(), k = upTo(10);
            String two = "(" + pq + ", " + t + ")";
            switch (k) {
                case 0: say("place(" + w + ", " + t + ")", x.place(w, t), y.place(w, t)); break;
                case 1: say("sees" + two, x.sees(pq, t), y.sees(pq, t)); break;
                case 2: int part = what(2); say("sights(" + pq + ", " + part + ")", x.sights(pq, part), y.sights(pq, part)); break;
                case 3: say("blind(" + pq + ")", x.blind(pq), y.blind(pq)); break;
                case 4: if (upTo(3) == 0) pq = -1; say("next(" + pq + ", " + t + ")", x.next(pq, t), y.next(pq, t)); break;
                case 5: say("all()", x.all(), y.all()); break;
                case 6: say("joined(" + w + ", " + t + ")", x.joined(w, t), y.joined(w, t)); break;
                case 7: say("lasts" + two, x.lasts(pq, t), y.lasts(pq, t)); break;
                case 8: say("unheard(" + pq + ", " + w + ", " + t + ")", x.unheard(pq, w, t), y.unheard(pq, w, t)); break;
                default: say("beam" + two, x.beam(pq, t), y.beam(pq, t)); break;
            }
        }

        void message() {
            int pq = pq(), t = step(), k = upTo(6);
            String two = "(" + pq + ", " + t + ")";
            switch (k) {
                case 0: say("soonest" + two, x.soonest(pq, t), y.soonest(pq, t)); break;
                case 1: way(pq, t); break;
                case 2: say("hands" + two, x.hands(pq, t), y.hands(pq, t)); break;
                case 3:
                    if (y.round() > 1500 && upTo(30) != 0) return;
                    int what = what(2);
                    say("waits(" + pq + ", " + what + ")", x.waits(pq, what), y.waits(pq, what));
                    break;
                case 4:
                    int pr = upTo(10) == 0 ? upTo(150) - 5 : 10 * period() + 1 + upTo(9), part = what(2);
                    if (y.round() * (pr / 10) > 800 && upTo(12) != 0) return;
                    if (y.round() > 1500) return;
                    say("relay(" + pq + ", " + pr + ", " + part + ")", x.relay(pq, pr, part), y.relay(pq, pr, part));
                    break;
                default:
                    int tp = upTo(8) == 0 ? upTo(40) - 5 : 10 * (1 + upTo(2)) + upTo(2);
                    say("safe(" + pq + ", " + t + ", " + tp + ")", x.safe(pq, t, tp), y.safe(pq, t, tp));
                    break;
            }
        }

        void way(int pq, int t) {
            int steps = Math.max(0, y.soonest(pq, t));
            int k = upTo(10) == 0 ? upTo(9) - 4 + steps : upTo(steps + 1);
            if (upTo(20) == 0) k = -1;
            say("way(" + pq + ", " + t + ", " + k + ")", x.way(pq, t, k), y.way(pq, t, k));
        }

        void book() {
            int shelf = upTo(2), k = upTo(5);
            if (k == 0) {
                int n = upTo(4) == 0 ? upTo(8) : 3 * upTo(5);
                say("row", x.row(shelf, 1, n), y.row(shelf, 1, n));
                for (int i = 0; i < n; i++) {
                    int t = upTo(500), p = pq();
                    int[] three = {t, p, upTo(30) == 0 ? upTo(5) - 1 : upTo(3) == 0 ? upTo(2) : Math.max(0, y.sees(p, i >= 2 ? (int) y.element(shelf, i - 2) : 0))};
                    if (i % 3 == 2) three[2] = upTo(20) == 0 ? upTo(4) - 1 : upTo(5) == 0 ? upTo(2) : Math.max(0, y.sees((int) y.element(shelf, i - 1), (int) y.element(shelf, i - 2)));
                    say("put", x.put(shelf, i, three[i % 3]), y.put(shelf, i, three[i % 3]));
                }
                return;
            }
            if (upTo(8) == 0) shelf = shelf();
            if (k == 1) say("judge(" + shelf + ")", x.judge(shelf), y.judge(shelf));
            else if (k == 2) say("whose(" + shelf + ")", x.whose(shelf), y.whose(shelf));
            else {
                int w = world(), what = what(2);
                say("stepped(" + shelf + ", " + w + ", " + what + ")", x.stepped(shelf, w, what), y.stepped(shelf, w, what));
            }
        }

        void deed() {
            int pq = pq(), seed = random.nextInt(), k = upTo(12);
            if (k < 3) say("send(" + pq + ")", x.send(pq), y.send(pq));
            else if (k < 5) { int n = upTo(15) == 0 ? upTo(110) - 3 : 1 + upTo(6); say("go(" + seed + ", " + n + ")", x.go(seed, n), y.go(seed, n)); }
            else if (k == 5) { int n = upTo(10) == 0 ? upTo(36) - 2 : 1 + upTo(30), w = what(2); say("drawn(" + seed + ", " + n + ", " + w + ")", x.drawn(seed, n, w), y.drawn(seed, n, w)); }
            else if (k == 6) { if (upTo(3) == 0) say("image()", x.image(), y.image()); else say("back()", x.back(), y.back()); }
            else if (k == 7) say("undo()", x.undo(), y.undo());
            else if (k == 8) say("redo()", x.redo(), y.redo());
            else if (k == 9) { int w = what(7); say("count(" + w + ")", x.count(w), y.count(w)); }
            else {
                int[] whats = {0, 1, 2, 3, 4, 10, 11, 12, 13, 20, 21, 22, 23, 5, 9, 14, 19, 24, -1};
                int what = whats[upTo(whats.length)], number = what >= 20 ? (upTo(10) == 0 ? 1 : 0) : what >= 10 ? upTo(11) : world();
                say("of(" + number + ", " + what + ")", x.of(number, what), y.of(number, what));
            }
        }

        void shelves() {
            int shelf = shelf(), k = upTo(12);
            switch (k) {
                case 0: { int kind = what(8); say("body(" + kind + ")", x.body(kind), y.body(kind)); break; }
                case 1: case 2: {
                    int b = upTo(10) == 0 ? upTo(60) - 2 : upTo(Math.max(1, y.kinds.size())), act = what(4), v = random.nextInt();
                    say("act(" + b + ", " + act + ", " + v + ")", x.act(b, act, v), y.act(b, act, v));
                    for (int i = -1; i < 16; i++) say("trace(" + i + ")", x.trace(i), y.trace(i));
                    say("count(6)", x.count(6), y.count(6));
                    break;
                }
                case 3: { int b = upTo(4) == 0 ? -1 : upTo(Math.max(1, y.kinds.size()) + 1); say("keep(" + shelf + ", " + b + ")", x.keep(shelf, b), y.keep(shelf, b)); break; }
                case 4: { int sort = what(5), n = upTo(10) == 0 ? upTo(70) - 4 : upTo(12); say("row(" + shelf + ", " + sort + ", " + n + ")", x.row(shelf, sort, n), y.row(shelf, sort, n)); break; }
                case 5: case 6: { int i = upTo(14) - 1; long v = upTo(2) == 0 ? random.nextLong() : upTo(10); say("put(" + shelf + ", " + i + ", " + v + ")", x.put(shelf, i, v), y.put(shelf, i, v)); break; }
                case 7: { int i = upTo(14) - 1; say("element(" + shelf + ", " + i + ")", x.element(shelf, i), y.element(shelf, i)); break; }
                case 8: {
                    int o = upTo(3) == 0 ? shelf : shelf(), i = upTo(10) - 1, j = upTo(10) - 1, n = upTo(9) - 1;
                    say("shift(" + shelf + ", " + i + ", " + o + ", " + j + ", " + n + ")", x.shift(shelf, i, o, j, n), y.shift(shelf, i, o, j, n));
                    for (int e = 0; e < 12; e++) say("element", x.element(o, e), y.element(o, e));
                    break;
                }
                case 9: { int kk = what(8); say("taken(" + shelf + ", " + kk + ")", x.taken(shelf, kk), y.taken(shelf, kk)); break; }
                default: fromRow(upTo(4) == 0 ? shelf : 3); break;
            }
        }

        void fromRow(int shelf) {
            if (y.worlds.size() >= 4 && upTo(3) != 0) return;
            if (upTo(2) == 0 && shelf == 3) {
                int n = upTo(8);
                say("row", x.row(3, 0, n), y.row(3, 0, n));
                for (int i = 0; i < n; i++) {
                    int p = 3 + upTo(6), v = i % 3 == 0 ? p : i % 3 == 1 ? upTo(4) : 1 + upTo(9);
                    say("put", x.put(3, i, v), y.put(3, i, v));
                }
            }
            int i = upTo(3) == 0 ? upTo(8) : 0, n = what(7);
            if (upTo(12) == 0) i = upTo(4) == 0 ? Integer.MIN_VALUE + upTo(3) : -1 - upTo(6);
            say("worlds(" + shelf + ", " + i + ", " + n + ")", x.worlds(shelf, i, n), y.worlds(shelf, i, n));
        }
    }

    /** Texts, and what the document says of them, by another road than the class goes. */
    static final class Laws {
        static String good(Random r) {
            String[] laws = {
                "d<180-h/2&!(r+q=7)|a=b", "d+h<181", "1", "0", "d>90", "r=q?d<100;d<60", "a=0&b=0", "a<180&b<180",
                "(a+b)%7=0", "r<q", "r*q-d/10", "-d", "!d", "d=180", "d%60=0?1;r>4?d<90;0", "a/30=b/30", "r+1=q&d<90",
                "d/h", "d%h", "a=0&b=0&r+1=q", "a*a*a*b*b*b*9999*9999%7=3", "9999*9999*9999/(0-1)<0", "a=330&b=0", "0?1", "0?1;0?2;3>2"
            };
            if (r.nextInt(3) == 0) {
                String made = line(r);
                for (int i = 0; i < r.nextInt(3); i++) made += ";" + line(r);
                if (made.length() <= 120) return made;
            }
            return laws[r.nextInt(laws.length)];
        }

        static String line(Random r) { return r.nextInt(3) == 0 ? e(r, 3) + "?" + e(r, 3) : e(r, 3); }

        static String e(Random r, int deep) {
            String[] signs = {"|", "&", "<", "=", ">", "+", "-", "*", "/", "%"};
            String made = o(r, deep);
            boolean compared = false;
            for (int i = r.nextInt(4); i > 0; i--) {
                String sign = signs[r.nextInt(signs.length)];
                if ("<=>".contains(sign)) {
                    if (compared) sign = "+";
                    compared = true;
                } else if ("|&".contains(sign)) compared = false;
                made += sign + o(r, deep);
            }
            return made;
        }

        static String o(Random r, int deep) {
            int k = r.nextInt(12);
            if (k == 0 && deep > 0) return "!" + o(r, deep - 1);
            if (k == 1 && deep > 0) return "-" + o(r, deep - 1);
            if (k == 2 && deep > 0) return "(" + e(r, deep - 1) + ")";
            if (k < 6) return "" + r.nextInt(r.nextInt(2) == 0 ? 20 : 10000);
            return "" + "drqhab".charAt(r.nextInt(6));
        }

        static String any(Random r) {
            String signs = "drqhab0123456789!-()?;|&<=>+*/%dd11((!!--  x";
            StringBuilder made = new StringBuilder();
            int k = r.nextInt(6);
            if (k == 0) {
                int n = r.nextInt(20);
                for (int i = 0; i < n; i++) made.append(signs.charAt(r.nextInt(signs.length())));
            } else if (k == 1) {
                int n = r.nextInt(10);
                for (int i = 0; i < n; i++) made.append("(!-".charAt(r.nextInt(3)));
                made.append("d");
                for (int i = 0; i < r.nextInt(8); i++) made.append(')');
                if (r.nextBoolean()) made.append(good(r));
            } else {
                made.append(good(r));
                for (int i = r.nextInt(3); i > 0 && made.length() > 0; i--) {
                    int at = r.nextInt(made.length());
                    char c = (char) (r.nextInt(30) == 0 ? r.nextInt(256) : signs.charAt(r.nextInt(signs.length())));
                    if (r.nextBoolean()) made.setCharAt(at, c); else made.insert(at, c);
                }
                if (r.nextInt(4) == 0) made.setLength(r.nextInt(made.length() + 1));
            }
            if (made.length() > 120) made.setLength(120);
            return made.toString();
        }

        /** What stands open at a place, as a text: ( ! -, and c where a comparison is behind us at that level. */
        static int fault(String text) {
            StringBuilder open = new StringBuilder();
            boolean wantsOne = true, asked = false;
            int digits = 0;
            for (int i = 0; i < text.length(); i++) {
                char c = text.charAt(i);
                if (wantsOne) {
                    if ("(!-".indexOf(c) >= 0) {
                        long there = open.chars().filter(s -> s != 'c').count();
                        if (there == 6) return i;
                        open.append(c);
                        continue;
                    }
                    if ("drqhab".indexOf(c) >= 0) digits = 0;
                    else if (c >= '0' && c <= '9') digits = 1;
                    else return i;
                    wantsOne = false;
                    endOne(open);
                    continue;
                }
                if (c >= '0' && c <= '9') {
                    if (digits < 1 || digits > 3) return i;
                    digits++;
                    continue;
                }
                digits = 0;
                boolean compared = open.length() > 0 && open.charAt(open.length() - 1) == 'c';
                if (c == ')') {
                    if (compared) open.setLength(open.length() - 1);
                    if (open.length() == 0) return i;
                    open.setLength(open.length() - 1);
                    endOne(open);
                    continue;
                }
                if ("<=>".indexOf(c) >= 0) {
                    if (compared) return i;
                    open.append('c');
                } else if ("|&".indexOf(c) >= 0) {
                    if (compared) open.setLength(open.length() - 1);
                } else if (c == '?' || c == ';') {
                    if (compared) open.setLength(open.length() - 1);
                    if (open.length() > 0 || c == '?' && asked) return i;
                    asked = c == '?';
                } else if ("+-*/%".indexOf(c) < 0) return i;
                wantsOne = true;
            }
            if (wantsOne) return text.length();
            boolean compared = open.length() > 0 && open.charAt(open.length() - 1) == 'c';
            return open.length() > (compared ? 1 : 0) ? text.length() : -1;
        }

        static void endOne(StringBuilder open) {
            while (open.length() > 0 && "!-".indexOf(open.charAt(open.length() - 1)) >= 0) open.setLength(open.length() - 1);
        }

        /** The value of a text without fault, by splitting it at its loosest signs. */
        static int value(String text, int[] names) {
            for (String line : text.split(";")) {
                int ask = line.indexOf('?');
                if (ask < 0) return worth(line, names);
                if (worth(line.substring(0, ask), names) != 0) return worth(line.substring(ask + 1), names);
            }
            return 0;
        }

        static int worth(String e, int[] names) {
            for (String signs : new String[] {"|", "&", "<=>", "+-", "*/%"}) {
                int deep = 0;
                for (int i = e.length() - 1; i > 0; i--) {
                    char c = e.charAt(i);
                    if (c == ')') deep++;
                    if (c == '(') deep--;
                    boolean two = "drqhab0123456789)".indexOf(e.charAt(i - 1)) >= 0;
                    if (deep == 0 && two && signs.indexOf(c) >= 0) {
                        int x = worth(e.substring(0, i), names), y = worth(e.substring(i + 1), names);
                        switch (c) {
                            case '|': return x != 0 | y != 0 ? 1 : 0;
                            case '&': return x != 0 & y != 0 ? 1 : 0;
                            case '<': return x < y ? 1 : 0;
                            case '=': return x == y ? 1 : 0;
                            case '>': return x > y ? 1 : 0;
                            case '+': return x + y;
                            case '-': return x - y;
                            case '*': return x * y;
                            case '/': return y == 0 ? 0 : x / y;
                            default: return y == 0 ? 0 : x % y;
                        }
                    }
                }
            }
            char c = e.charAt(0);
            if (c == '(') return worth(e.substring(1, e.length() - 1), names);
            if (c == '!') return worth(e.substring(1), names) == 0 ? 1 : 0;
            if (c == '-') return -worth(e.substring(1), names);
            int name = "drqhab".indexOf(c);
            return name >= 0 ? names[name] : Integer.parseInt(e);
        }
    }

    /** The document, word by word. */
    static final class Plain {
        static final class World { int period, start, ring, led; }
        static final class Message { int from, to, has, came = NOT; Message copy() { Message m = new Message(); m.from = from; m.to = to; m.has = has; m.came = came; return m; } }

        final List<World> worlds = new ArrayList<>();
        List<Message> messages = new ArrayList<>();
        final List<Integer> kinds = new ArrayList<>();
        final List<int[]> changes = new ArrayList<>();
        final List<Integer> trace = new ArrayList<>();
        final Object[] shelves = new Object[6];
        String tape = "", law = null;
        int hide = 30, storm = 0, now = 0, done = 0, z;
        List<Message> keptMessages;
        int keptNow;
        int[] keptLed;

        int n() { return worlds.size(); }
        boolean isWorld(int w) { return w >= 0 && w < n(); }
        boolean isPair(int pq) { return pq >= 0 && isWorld(pq / 10) && isWorld(pq % 10) && pq / 10 != pq % 10; }
        boolean isStep(int t) { return t >= 0 && t <= 999999; }

        int world(int ps, int ring) {
            int p = ps / 100, s = ps % 100;
            if (ps < 0 || p < 1 || p > 12 || s < 0 || s >= p || ring < 1 || ring > 9) return BAD;
            if (n() == 6) return FULL;
            add(p, s, ring);
            return n() - 1;
        }

        void add(int p, int s, int ring) { World w = new World(); w.period = p; w.start = s; w.ring = ring; worlds.add(w); }

        int worlds(int shelf, int i, int n) {
            if (shelf < 0 || shelf > 5 || n < 1 || n > 6) return BAD;
            if (shelves[shelf] == null) return 0;
            if (!(shelves[shelf] instanceof byte[])) return -12;
            byte[] row = (byte[]) shelves[shelf];
            int came = 0;
            while (came < n) {
                if (i < 0 || i >= row.length - 2) break;
                int p = row[i], s = row[i + 1], r = row[i + 2];
                if (p < 1 || p > 12 || s < 0 || s >= p || r < 1 || r > 9 || n() == 6) break;
                add(p, s, r);
                came++;
                i += 3;
            }
            return came;
        }

        int mend(int number, int what, int v) {
            if (what < 0 || what > 4) return BAD;
            if (what >= 3 ? number != 0 : !isWorld(number)) return BAD;
            int low = what == 0 || what == 2 ? 1 : 0;
            int high = what == 0 ? 12 : what == 1 ? worlds.get(number).period - 1 : what == 2 ? 9 : what == 3 ? 180 : 11;
            if (v < low || v > high) return BAD;
            int was = get(number, what);
            if (was == v) return was;
            set(number, what, v);
            while (changes.size() > done) changes.remove(changes.size() - 1);
            changes.add(new int[] {number, what, was, v});
            if (changes.size() > 40) changes.remove(0);
            done = changes.size();
            return was;
        }

        int get(int number, int what) { return what == 0 ? worlds.get(number).period : what == 1 ? worlds.get(number).start : what == 2 ? worlds.get(number).ring : what == 3 ? hide : storm; }

        void set(int number, int what, int v) {
            if (what == 0) worlds.get(number).period = v;
            if (what == 1) worlds.get(number).start = v;
            if (what == 2) worlds.get(number).ring = v;
            if (what == 3) hide = v;
            if (what == 4) storm = v;
        }

        int of(int number, int what) {
            if (what >= 0 && what <= 4) {
                if (!isWorld(number)) return BAD;
                return what < 3 ? get(number, what) : what == 3 ? where(number, now) : worlds.get(number).led;
            }
            if (what >= 10 && what <= 13) {
                if (number < 0 || number >= messages.size()) return BAD;
                Message m = messages.get(number);
                return what == 10 ? m.from : what == 11 ? m.to : what == 12 ? m.has : m.came;
            }
            if (what >= 20 && what <= 23 && number == 0) return what == 20 ? hide : what == 21 ? storm : what == 22 ? now : round();
            return BAD;
        }

        int feed(int c) {
            if (c < 0 || c > 255) return BAD;
            if (tape.length() == 120) return FULL;
            tape += (char) c;
            return tape.length();
        }

        int law() {
            int fault = Laws.fault(tape);
            if (fault < 0) law = tape;
            tape = "";
            return fault < 0 ? 1 : -100 - fault;
        }

        int where(int w, int t) { World x = worlds.get(w); return (t + x.start) % x.period * 360 / x.period; }

        boolean see(int p, int q, int t) {
            if (p > q) return see(q, p, t);
            int a = where(p, t), b = where(q, t), d = Math.min(Math.floorMod(a - b, 360), Math.floorMod(b - a, 360));
            if (law == null) return d + hide <= 180;
            return Laws.value(law, new int[] {d, worlds.get(p).ring, worlds.get(q).ring, hide, a, b}) != 0;
        }

        int round(int... some) {
            for (int r = 1; ; r++) {
                boolean fits = true;
                for (int w : some) if (r % worlds.get(w).period != 0) fits = false;
                if (fits) return r;
            }
        }

        int round() { int[] all = new int[n()]; for (int i = 0; i < n(); i++) all[i] = i; return round(all); }

        int place(int w, int t) { return isWorld(w) && isStep(t) ? where(w, t) : BAD; }
        int sees(int pq, int t) { return isPair(pq) && isStep(t) ? (see(pq / 10, pq % 10, t) ? 1 : 0) : BAD; }

        int sights(int pq, int part) {
            if (!isPair(pq) || part < 0 || part > 1) return BAD;
            int r = round(pq / 10, pq % 10), seen = 0;
            for (int t = 0; t < r; t++) if (see(pq / 10, pq % 10, t)) seen++;
            for (int g = r; g > 1; g--) if (r % g == 0 && seen % g == 0) { r /= g; seen /= g; }
            return part == 0 ? seen : r;
        }

        int blind(int pq) {
            if (!isPair(pq)) return BAD;
            int r = round(pq / 10, pq % 10), most = 0;
            for (int t = 0; t < r; t++) {
                int k = 0;
                while (k < r && !see(pq / 10, pq % 10, t + k)) k++;
                if (k == r) return NOT;
                most = Math.max(most, k);
            }
            return most;
        }

        boolean allSee(int t) {
            for (int i = 0; i < n(); i++) for (int j = i + 1; j < n(); j++) if (!see(i, j, t)) return false;
            return true;
        }

        int next(int pq, int t) {
            if (!isStep(t) || pq != -1 && !isPair(pq)) return BAD;
            int r = round();
            for (int k = t; k < t + r; k++) if (pq == -1 ? allSee(k) : see(pq / 10, pq % 10, k)) return k;
            return NOT;
        }

        int all() { int r = round(), c = 0; for (int t = 0; t < r; t++) if (allSee(t)) c++; return c; }

        boolean[] together(int w, int t) {
            boolean[] in = new boolean[n()];
            in[w] = true;
            for (boolean more = true; more; ) {
                more = false;
                for (int i = 0; i < n(); i++) for (int j = 0; j < n(); j++) if (in[i] && !in[j] && see(i, j, t)) { in[j] = true; more = true; }
            }
            return in;
        }

        int joined(int w, int t) {
            if (!isWorld(w) || !isStep(t)) return BAD;
            int bits = 0;
            boolean[] in = together(w, t);
            for (int i = 0; i < n(); i++) if (in[i]) bits += 1 << i;
            return bits;
        }

        int lasts(int pq, int t) {
            if (!isPair(pq) || !isStep(t)) return BAD;
            int r = round();
            for (int k = 0; k < r; k++) if (!together(pq / 10, t + k)[pq % 10]) return k;
            return NOT;
        }

        int unheard(int pq, int third, int t) {
            if (!isPair(pq) || !isWorld(third) || third == pq / 10 || third == pq % 10 || !isStep(t)) return BAD;
            int r = round();
            for (int k = t; k < t + r; k++) if (see(pq / 10, pq % 10, k) && !see(third, pq / 10, k) && !see(third, pq % 10, k)) return k;
            return NOT;
        }

        int beam(int pq, int t) {
            if (!isPair(pq) || !isStep(t)) return BAD;
            int p = pq / 10, q = pq % 10, a = where(p, t), b = where(q, t);
            if (!see(p, q, t)) return NOT;
            int up = Math.floorMod(b - a, 360), down = Math.floorMod(a - b, 360);
            if (up == down) return 0;
            int step = up < down ? 1 : -1, bits = 0;
            for (int at = a + step; Math.floorMod(at, 360) != b; at += step)
                for (int w = 0; w < n(); w++) if (where(w, t) == Math.floorMod(at, 360)) bits |= 1 << w;
            return bits;
        }

        int soonest(int pq, int t) { return isPair(pq) && isStep(t) ? soon(pq / 10, pq % 10, t) : BAD; }

        int soon(int p, int q, int t) {
            boolean[] has = new boolean[n()];
            has[p] = true;
            for (int k = 0; k < 600; k++) {
                boolean[] then = has.clone();
                for (int i = 0; i < n(); i++) for (int j = 0; j < n(); j++) if (has[i] && !has[j] && see(i, j, t + k)) then[j] = true;
                has = then;
                if (has[q]) return k + 1;
            }
            return NOT;
        }

        /** Of each world the best way to it, grown step by step: hands first, then the numbers. */
        int[] best(int p, int q, int t) {
            int s = soon(p, q, t);
            if (s == NOT) return null;
            int[][] ways = new int[n()][];
            ways[p] = new int[] {p};
            for (int k = 0; k < s; k++) {
                int[][] then = new int[n()][];
                for (int i = 0; i < n(); i++) {
                    if (ways[i] == null) continue;
                    for (int j = 0; j < n(); j++) {
                        if (i != j && !see(i, j, t + k)) continue;
                        int[] on = Arrays.copyOf(ways[i], k + 2);
                        on[k + 1] = j;
                        if (then[j] == null || handsOf(on) < handsOf(then[j]) || handsOf(on) == handsOf(then[j]) && Arrays.compare(on, then[j]) < 0) then[j] = on;
                    }
                }
                ways = then;
            }
            return ways[q];
        }

        static int handsOf(int[] way) { int h = 0; for (int i = 1; i < way.length; i++) if (way[i] != way[i - 1]) h++; return h; }

        int way(int pq, int t, int k) {
            if (!isPair(pq) || !isStep(t) || k < 0) return BAD;
            int[] way = best(pq / 10, pq % 10, t);
            return way == null ? NOT : k < way.length ? way[k] : BAD;
        }

        int hands(int pq, int t) {
            if (!isPair(pq) || !isStep(t)) return BAD;
            boolean[][] with = new boolean[n() + 1][n()];
            for (int h = 0; h <= n(); h++) with[h][pq / 10] = true;
            for (int k = 0; k < 600; k++)
                for (int h = n(); h >= 1; h--)
                    for (int i = 0; i < n(); i++) for (int j = 0; j < n(); j++) if (with[h - 1][i] && !with[h][j] && see(i, j, t + k)) with[h][j] = true;
            for (int h = 0; h <= n(); h++) if (with[h][pq % 10]) return h;
            return NOT;
        }

        int[] wait(int p, int q) {
            int r = round(), most = 0, first = 0;
            for (int t = 0; t < r; t++) {
                int s = soon(p, q, t);
                if (s == NOT) return null;
                if (s > most) { most = s; first = t; }
            }
            return new int[] {most, first};
        }

        int waits(int pq, int what) {
            if (!isPair(pq) || what < 0 || what > 1) return BAD;
            int[] wait = wait(pq / 10, pq % 10);
            return wait == null ? NOT : wait[what];
        }

        int relay(int pq, int pr, int what) {
            if (!isPair(pq) || pr < 0 || pr / 10 < 1 || pr / 10 > 12 || pr % 10 < 1 || what < 0 || what > 1) return BAD;
            int best = NOT, least = Integer.MAX_VALUE;
            for (int s = 0; s < pr / 10; s++) {
                add(pr / 10, s, pr % 10);
                int[] wait = wait(pq / 10, pq % 10);
                worlds.remove(n() - 1);
                if (wait != null && wait[0] < least) { least = wait[0]; best = s; }
            }
            return best == NOT ? NOT : what == 0 ? best : least;
        }

        long safe(int pq, int t, int tp) {
            if (!isPair(pq) || !isStep(t) || tp != 10 && tp != 11 && tp != 20 && tp != 21) return Long.MIN_VALUE;
            int[] way = best(pq / 10, pq % 10, t);
            if (way == null) return Long.MIN_VALUE;
            java.math.BigInteger twelve = java.math.BigInteger.valueOf(12);
            java.math.BigInteger up = java.math.BigInteger.valueOf(12 - storm).pow(handsOf(way)), down = twelve.pow(handsOf(way));
            if (tp >= 20) { up = up.multiply(down).multiply(java.math.BigInteger.TWO).subtract(up.multiply(up)); down = down.multiply(down); }
            java.math.BigInteger g = up.gcd(down);
            return (tp % 10 == 0 ? up : down).divide(g).longValueExact();
        }

        int refusal(int shelf) { return shelf < 0 || shelf > 5 ? BAD : shelves[shelf] == null ? -11 : shelves[shelf] instanceof short[] ? 0 : -12; }

        int wrong(short[] book) {
            for (int k = 0; 3 * k < book.length; k++) {
                if (3 * k + 2 >= book.length) return k;
                int t = book[3 * k], pq = book[3 * k + 1], saw = book[3 * k + 2];
                if (t < 0 || !isPair(pq) || saw != 0 && saw != 1 || sees(pq, t) != saw) return k;
            }
            return NOT;
        }

        int judge(int shelf) { return refusal(shelf) != 0 ? refusal(shelf) : wrong((short[]) shelves[shelf]); }

        List<Integer> starts(int shelf, int w) {
            List<Integer> fit = new ArrayList<>();
            World x = worlds.get(w);
            int own = x.start;
            for (int s = 0; s < x.period; s++) { x.start = s; if (judge(shelf) == NOT) fit.add(s); }
            x.start = own;
            return fit;
        }

        int stepped(int shelf, int w, int what) {
            if (shelf < 0 || shelf > 5 || !isWorld(w) || what < 0 || what > 1) return BAD;
            if (refusal(shelf) != 0) return refusal(shelf);
            List<Integer> fit = starts(shelf, w);
            return what == 0 ? fit.size() : fit.isEmpty() ? NOT : fit.get(0);
        }

        int whose(int shelf) {
            if (refusal(shelf) != 0) return refusal(shelf);
            int bits = 0;
            for (int w = 0; w < n(); w++) {
                List<Integer> fit = starts(shelf, w);
                fit.remove((Integer) (worlds.get(w).start % worlds.get(w).period));
                if (!fit.isEmpty()) bits |= 1 << w;
            }
            return bits;
        }

        int send(int pq) {
            if (!isPair(pq)) return BAD;
            if (messages.size() == 10) return FULL;
            Message m = new Message();
            m.from = m.has = pq / 10;
            m.to = pq % 10;
            messages.add(m);
            return messages.size() - 1;
        }

        int draw() { z = z * 1103515245 + 12345; return z >>> 8; }

        int go(int seed, int n) {
            if (n < 1 || n > 99) return BAD;
            z = seed;
            int came = 0;
            for (int i = 0; i < n; i++, now++)
                for (Message m : messages) {
                    if (m.has == NOT || m.has == m.to) continue;
                    int[] way = best(m.has, m.to, now);
                    if (way == null || way[1] == m.has) continue;
                    worlds.get(m.has).led++;
                    m.has = draw() % 12 < storm ? NOT : way[1];
                    if (m.has == m.to) { m.came = now + 1; came++; }
                }
            return came;
        }

        int drawn(int seed, int n, int what) {
            if (n < 1 || n > 30 || what < 0 || what > 1) return BAD;
            if (n() < 2) return STATE;
            z = seed;
            int sum = 0, none = 0, r = round();
            for (int i = 0; i < n; i++) {
                int t = draw() % r, p = draw() % n(), q = draw() % n();
                if (q == p) q = q + 1 == n() ? 0 : q + 1;
                int s = soon(p, q, t);
                if (s == NOT) none++; else sum += s;
            }
            return what == 0 ? sum : none;
        }

        int image() {
            keptMessages = new ArrayList<>();
            for (Message m : messages) keptMessages.add(m.copy());
            keptLed = new int[n()];
            for (int i = 0; i < n(); i++) keptLed[i] = worlds.get(i).led;
            return keptNow = now;
        }

        int back() {
            if (keptMessages == null) return STATE;
            messages = new ArrayList<>();
            for (Message m : keptMessages) messages.add(m.copy());
            for (int i = 0; i < n(); i++) worlds.get(i).led = i < keptLed.length ? keptLed[i] : 0;
            return now = keptNow;
        }

        int undo() {
            if (done == 0) return STATE;
            int[] c = changes.get(--done);
            set(c[0], c[1], c[2]);
            return done;
        }

        int redo() {
            if (done == changes.size()) return STATE;
            int[] c = changes.get(done++);
            set(c[0], c[1], c[3]);
            return changes.size() - done;
        }

        int body(int kind) {
            if (kind < 0 || kind > 7) return BAD;
            if (kinds.size() == 50) return FULL;
            kinds.add(kind);
            return kinds.size() - 1;
        }

        int act(int body, int act, int x) {
            trace.clear();
            if (body < 0 || body >= kinds.size() || act < 0 || act > 3) return 0;
            Relay r = make(kinds.get(body));
            r.n = body;
            r.trace = trace;
            return act == 0 ? r.sees(x) : act == 1 ? r.sends(x) : act == 2 ? r.turns(x) : r.tells(x);
        }

        static Relay make(int kind) {
            switch (kind) {
                case 0: return new Relay();
                case 1: return new Near();
                case 2: return new Dark();
                case 3: return new Beamed();
                case 4: return new Far();
                case 5: return new Stormed();
                case 6: return new Stored();
                default: return new Lost();
            }
        }

        int trace(int i) { return i < 0 || i >= trace.size() || i >= 24 ? BAD : trace.get(i); }

        int keep(int shelf, int body) {
            if (shelf < 0 || shelf > 5 || body < -1 || body >= kinds.size()) return BAD;
            shelves[shelf] = body < 0 ? null : make(kinds.get(body));
            return 1;
        }

        int row(int shelf, int sort, int n) {
            if (shelf < 0 || shelf > 5 || sort < 0 || sort > 4 || n > 60) return BAD;
            if (n < 0) return -14;
            shelves[shelf] = sort == 0 ? new byte[n] : sort == 1 ? new short[n] : sort == 2 ? new int[n] : sort == 3 ? (Object) new long[n] : new boolean[n];
            return 1;
        }

        int place(int shelf, int i, boolean any) {
            if (shelf < 0 || shelf > 5) return BAD;
            if (shelves[shelf] == null) return -11;
            if (!shelves[shelf].getClass().isArray()) return -12;
            return i < 0 || i >= java.lang.reflect.Array.getLength(shelves[shelf]) ? -13 : 0;
        }

        int put(int shelf, int i, long v) {
            int no = place(shelf, i, true);
            if (no != 0) return no;
            Object row = shelves[shelf];
            if (row instanceof byte[]) ((byte[]) row)[i] = (byte) v;
            else if (row instanceof short[]) ((short[]) row)[i] = (short) v;
            else if (row instanceof int[]) ((int[]) row)[i] = (int) v;
            else if (row instanceof long[]) ((long[]) row)[i] = v;
            else ((boolean[]) row)[i] = v != 0;
            return 1;
        }

        long element(int shelf, int i) {
            if (place(shelf, i, true) != 0) return Long.MIN_VALUE;
            Object row = shelves[shelf];
            if (row instanceof boolean[]) return ((boolean[]) row)[i] ? 1 : 0;
            return java.lang.reflect.Array.getLong(row, i);
        }

        int shift(int shelf, int i, int other, int j, int n) {
            if (shelf < 0 || shelf > 5 || other < 0 || other > 5) return BAD;
            try {
                System.arraycopy(shelves[shelf], i, shelves[other], j, n);
                return n;
            } catch (NullPointerException e) { return -11;
            } catch (ArrayStoreException e) { return -12;
            } catch (IndexOutOfBoundsException e) { return -13; }
        }

        int taken(int shelf, int k) {
            if (shelf < 0 || shelf > 5 || k < 0 || k > 7) return BAD;
            if (shelves[shelf] == null) return -11;
            Class<?>[] all = {Relay.class, Near.class, Dark.class, Beamed.class, Far.class, Stormed.class, Stored.class, Lost.class};
            if (!all[k].isInstance(shelves[shelf])) return -12;
            return Arrays.asList(all).indexOf(shelves[shelf].getClass());
        }

        int count(int what) {
            switch (what) {
                case 0: return n();
                case 1: return messages.size();
                case 2: return (int) messages.stream().filter(m -> m.came != NOT).count();
                case 3: return tape.length();
                case 4: return done;
                case 5: return kinds.size();
                case 6: return trace.size();
                default: return BAD;
            }
        }
    }

    interface Sees {
        int number();
        void ran(int body);
        default int sees(int x) { ran(1); return x + number(); }
    }

    interface Tells {
        int sends(int x);
        int turns(int x);
        void ran(int body);
        default int tells(int x) { ran(2); return sends(x) - turns(1); }
    }

    static class Relay implements Sees, Tells {
        int n;
        List<Integer> trace;
        public int number() { return n; }
        public void ran(int body) { trace.add(body); }
        public int sends(int x) { ran(10); return sees(x) * 2; }
        public int turns(int x) { ran(11); return x ^ n; }
    }

    static class Near extends Relay { public int sees(int x) { ran(20); return super.sees(x) + 3; } }
    static class Dark extends Relay { public int sends(int x) { ran(30); return -super.sends(x); } }
    static class Beamed extends Dark {
        public int turns(int x) { ran(40); return super.turns(x) * 3; }
        public int sends(int x) { ran(41); return super.sends(x + 1); }
    }
    static class Far extends Near { public int turns(int x) { ran(50); return super.turns(x) - sees(2); } }
    static class Stormed extends Beamed { public int tells(int x) { ran(60); return super.tells(x) ^ 5; } }
    static class Stored extends Relay { public int sees(int x) { ran(70); return super.sees(x) * 2; } }
    static class Lost extends Far {
        public int sends(int x) { ran(80); return super.sends(x) + turns(2); }
        public int tells(int x) { ran(81); return super.tells(x) - 1; }
    }
}

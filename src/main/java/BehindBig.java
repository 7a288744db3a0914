import java.util.Arrays;

/**
 * Small worlds on circles round a large one: who sees whom, messages between them, books of sights,
 * storms, relays and shelves. The promises are numbered in DOC.md; every public method keeps one.
 */
public final class BehindBig {
    public static final int BAD = -1, NOT = -2, FULL = -3, STATE = -5, VOID = -2000000000;

    private static final int NOTHING = -11, OTHER_KIND = -12, NO_PLACE = -13, BELOW_ZERO = -14;

    private static final int WORLDS = 6, LONGEST_PERIOD = 12, WIDEST_RING = 9, WIDEST_HIDE = 180;
    private static final int TWELVE = 12, LAST_STEP = 999999, WITHIN = 600;
    private static final int MOST_STEPS = 99, MOST_DRAWN = 30, SHELVES = 6;

    private final Law text = new Law();
    private final Sky sky = new Sky(text);
    private final Ways ways = new Ways(sky);
    private final Changes changes = new Changes();
    private final Deed deed = new Deed();
    private final Deed picture = new Deed();
    private final Relays relays = new Relays();
    private final Shelf[] shelves = new Shelf[SHELVES];
    private boolean pictured;
    private int storm;
    private int chance;

    /** Promise 1. */
    public BehindBig() {
        for (int i = 0; i < SHELVES; i++) {
            shelves[i] = new Shelf();
        }
    }

    // ---- worlds

    /** Promise 2. */
    public int world(int ps, int ring) {
        if (ps < 0 || !Sky.isWorld(ps / 100, ps % 100, ring)) {
            return BAD;
        }
        if (sky.size >= WORLDS) {
            return FULL;
        }
        return sky.add(ps / 100, ps % 100, ring);
    }

    /** Promise 3. */
    public int worlds(int shelf, int i, int n) {
        if (!isShelf(shelf) || n < 1 || n > WORLDS) {
            return BAD;
        }
        Shelf from = shelves[shelf];
        if (from.holdsNothing()) {
            return 0;
        }
        if (!from.holdsRowOf(Shelf.BYTES)) {
            return OTHER_KIND;
        }
        int came = 0;
        // The document bounds no place: one that the row lacks, below 0 too, is where the row ends.
        for (int at = i; came < n && from.hasPlaces(at, 3) && sky.size < WORLDS; at += 3) {
            int period = (int) from.items[at], start = (int) from.items[at + 1], ring = (int) from.items[at + 2];
            if (!Sky.isWorld(period, start, ring)) {
                break;
            }
            sky.add(period, start, ring);
            came++;
        }
        return came;
    }

    /** Promise 4. */
    public int mend(int number, int what, int v) {
        if (!isMendable(number, what) || !isFit(number, what, v)) {
            return BAD;
        }
        int was = told(number, what);
        if (was != v) {
            tell(number, what, v);
            changes.note(number, what, was, v);
        }
        return was;
    }

    /** Promise 5. */
    public int of(int number, int what) {
        if (what >= 20) {
            return number == 0 ? ofTheWhole(what) : BAD;
        }
        if (what >= 10) {
            return number >= 0 && number < deed.size ? deed.ofMessage(number, what - 10) : BAD;
        }
        return isWorldNumber(number) ? ofWorld(number, what) : BAD;
    }

    /** Promise 6. */
    public int feed(int letter) {
        if (letter < 0 || letter > 255) {
            return BAD;
        }
        return text.take(letter) ? text.length : FULL;
    }

    /** Promise 7. */
    public int law() {
        int fault = text.read();
        if (fault >= 0) {
            return -100 - fault;
        }
        sky.forgetAll();
        return 1;
    }

    // ---- sights

    /** Promise 8. */
    public int place(int world, int t) {
        return isWorldNumber(world) && isStep(t) ? sky.placeAt(world, t) : BAD;
    }

    /** Promise 9. */
    public int sees(int pq, int t) {
        if (!isPair(pq) || !isStep(t)) {
            return BAD;
        }
        return sky.meet(pq / 10, pq % 10, t) ? 1 : 0;
    }

    /** Promise 10. */
    public int sights(int pq, int part) {
        if (!isPair(pq) || part < 0 || part > 1) {
            return BAD;
        }
        int p = pq / 10, q = pq % 10;
        int round = sky.roundOfTwo(p, q);
        int seen = 0;
        for (int t = 0; t < round; t++) {
            if (sky.meet(p, q, t)) {
                seen++;
            }
        }
        return (int) lowest(seen, round, part);
    }

    /** Promise 11. */
    public int blind(int pq) {
        if (!isPair(pq)) {
            return BAD;
        }
        int p = pq / 10, q = pq % 10;
        int round = sky.roundOfTwo(p, q);
        int run = 0, longest = 0;
        // Twice round, so that a run over the round's end is met whole.
        for (int t = 0; t < 2 * round; t++) {
            run = sky.meet(p, q, t) ? 0 : run + 1;
            longest = Math.max(longest, run);
        }
        return longest >= round ? NOT : longest;
    }

    /** Promise 12. */
    public int next(int pq, int t) {
        if (pq != -1 && !isPair(pq) || !isStep(t)) {
            return BAD;
        }
        if (pq == -1) {
            return nextOfAll(t);
        }
        int p = pq / 10, q = pq % 10;
        int round = sky.roundOfTwo(p, q);
        for (int i = 0; i < round; i++) {
            if (sky.meet(p, q, t + i)) {
                return t + i;
            }
        }
        return NOT;
    }

    /** Promise 13. */
    public int all() {
        int round = sky.round();
        int steps = 0;
        sky.turnTo(0);
        for (int t = 0; t < round; t++) {
            if (sky.allMeet()) {
                steps++;
            }
            sky.forward();
        }
        return steps;
    }

    /** Promise 14. */
    public int joined(int world, int t) {
        if (!isWorldNumber(world) || !isStep(t)) {
            return BAD;
        }
        sky.turnTo(t);
        return sky.reached(world, sky.word());
    }

    /** Promise 15. */
    public int lasts(int pq, int t) {
        if (!isPair(pq) || !isStep(t)) {
            return BAD;
        }
        int p = pq / 10, other = 1 << pq % 10;
        int round = sky.round();
        sky.turnTo(t);
        for (int i = 0; i < round; i++) {
            if ((sky.reached(p, sky.word()) & other) == 0) {
                return i;
            }
            sky.forward();
        }
        return NOT;
    }

    /** Promise 16. */
    public int unheard(int pq, int third, int t) {
        if (!isPair(pq) || !isWorldNumber(third) || !isStep(t)) {
            return BAD;
        }
        int p = pq / 10, q = pq % 10;
        if (third == p || third == q) {
            return BAD;
        }
        int round = sky.round();
        for (int i = 0; i < round; i++) {
            if (sky.meet(p, q, t + i) && !sky.meet(p, third, t + i) && !sky.meet(q, third, t + i)) {
                return t + i;
            }
        }
        return NOT;
    }

    /** Promise 17. */
    public int beam(int pq, int t) {
        if (!isPair(pq) || !isStep(t)) {
            return BAD;
        }
        return sky.meet(pq / 10, pq % 10, t) ? sky.between(pq / 10, pq % 10, t) : NOT;
    }

    // ---- messages in thought

    /** Promise 18. */
    public int soonest(int pq, int t) {
        return isPair(pq) && isStep(t) ? ways.fewestSteps(pq / 10, pq % 10, t) : BAD;
    }

    /** Promise 19. */
    public int way(int pq, int t, int k) {
        if (!isPair(pq) || !isStep(t) || k < 0) {
            return BAD;
        }
        int steps = ways.fewestSteps(pq / 10, pq % 10, t);
        if (steps == NOT) {
            return NOT;
        }
        return k <= steps ? ways.holder(pq / 10, pq % 10, steps, k) : BAD;
    }

    /** Promise 20. */
    public int hands(int pq, int t) {
        return isPair(pq) && isStep(t) ? ways.fewestHands(pq / 10, pq % 10, t) : BAD;
    }

    /** Promise 21. */
    public int waits(int pq, int what) {
        if (!isPair(pq) || what < 0 || what > 1) {
            return BAD;
        }
        if (!ways.learnWait(pq / 10, pq % 10)) {
            return NOT;
        }
        return what == 0 ? ways.longestWait : ways.longestFrom;
    }

    /** Promise 22. */
    public int relay(int pq, int pr, int what) {
        if (!isPair(pq) || pr < 0 || !Sky.isWorld(pr / 10, 0, pr % 10) || what < 0 || what > 1) {
            return BAD;
        }
        if (!ways.learnRelay(pq / 10, pq % 10, pr / 10, pr % 10)) {
            return NOT;
        }
        return what == 0 ? ways.bestStart : ways.bestWait;
    }

    /** Promise 23. */
    public long safe(int pq, int t, int tp) {
        if (!isPair(pq) || !isStep(t) || tp < 10 || tp > 21 || tp % 10 > 1) {
            return Long.MIN_VALUE;
        }
        int steps = ways.fewestSteps(pq / 10, pq % 10, t);
        if (steps == NOT) {
            return Long.MIN_VALUE;
        }
        int hands = ways.handsOnWay(pq / 10, pq % 10, steps);
        long comes = 1, of = 1;
        for (int i = 0; i < hands; i++) {
            comes *= TWELVE - storm;
            of *= TWELVE;
        }
        if (tp / 10 == 2) {
            long lost = of - comes;
            of *= of;
            comes = of - lost * lost;
        }
        return lowest(comes, of, tp % 10);
    }

    // ---- books

    /** Promise 24. */
    public int judge(int shelf) {
        int refusal = refusalOfBook(shelf);
        return refusal != 0 ? refusal : firstWrong(shelves[shelf]);
    }

    /** Promise 25. */
    public int stepped(int shelf, int world, int what) {
        if (!isShelf(shelf) || !isWorldNumber(world) || what < 0 || what > 1) {
            return BAD;
        }
        int refusal = refusalOfBook(shelf);
        if (refusal != 0) {
            return refusal;
        }
        int fit = startsThatFit(shelves[shelf], world);
        if (what == 0) {
            return Integer.bitCount(fit);
        }
        return fit == 0 ? NOT : lowestBit(fit);
    }

    /** Promise 26. */
    public int whose(int shelf) {
        int refusal = refusalOfBook(shelf);
        if (refusal != 0) {
            return refusal;
        }
        int bits = 0;
        for (int w = 0; w < sky.size; w++) {
            int own = 1 << sky.phase(w, 0);
            if ((startsThatFit(shelves[shelf], w) & ~own) != 0) {
                bits |= 1 << w;
            }
        }
        return bits;
    }

    // ---- in deed

    /** Promise 27. */
    public int send(int pq) {
        if (!isPair(pq)) {
            return BAD;
        }
        return deed.size < Deed.MESSAGES ? deed.add(pq / 10, pq % 10) : FULL;
    }

    /** Promise 28. */
    public int go(int seed, int n) {
        if (n < 1 || n > MOST_STEPS) {
            return BAD;
        }
        chance = seed;
        int before = deed.arrived();
        for (int i = 0; i < n; i++) {
            for (int m = 0; m < deed.size; m++) {
                carry(m);
            }
            deed.now++;
        }
        return deed.arrived() - before;
    }

    /** Promise 29. */
    public int drawn(int seed, int n, int what) {
        if (n < 1 || n > MOST_DRAWN || what < 0 || what > 1) {
            return BAD;
        }
        if (sky.size < 2) {
            return STATE;
        }
        chance = seed;
        int round = sky.round();
        int together = 0, never = 0;
        for (int i = 0; i < n; i++) {
            int t = draw(round);
            int p = draw(sky.size);
            int q = draw(sky.size);
            if (p == q) {
                q = left(q + 1, sky.size);
            }
            int steps = ways.fewestSteps(p, q, t);
            if (steps == NOT) {
                never++;
            } else {
                together += steps;
            }
        }
        return what == 0 ? together : never;
    }

    /** Promise 30. */
    public int image() {
        picture.copy(deed);
        pictured = true;
        return deed.now;
    }

    /** Promise 31. */
    public int back() {
        if (!pictured) {
            return STATE;
        }
        deed.copy(picture);
        return deed.now;
    }

    /** Promise 32. */
    public int undo() {
        if (changes.done == 0) {
            return STATE;
        }
        int i = changes.stepBack();
        tell(changes.numbers[i], changes.whats[i], changes.olds[i]);
        return changes.done;
    }

    /** Promise 33. */
    public int redo() {
        if (changes.done >= changes.size) {
            return STATE;
        }
        int i = changes.stepOn();
        tell(changes.numbers[i], changes.whats[i], changes.news[i]);
        return changes.size - changes.done;
    }

    // ---- acts, shelves

    /** Promise 34. */
    public int body(int kind) {
        if (!Relays.isKind(kind)) {
            return BAD;
        }
        return relays.size < Relays.BODIES ? relays.add(kind) : FULL;
    }

    /** Promise 35. */
    public int act(int body, int act, int x) {
        return relays.perform(body, act, x);
    }

    /** Promise 36. */
    public int trace(int i) {
        return i >= 0 && i < Relays.TRACED && i < relays.ran ? relays.traced[i] : BAD;
    }

    /** Promise 37. */
    public int keep(int shelf, int body) {
        if (!isShelf(shelf) || body < -1 || body >= relays.size) {
            return BAD;
        }
        shelves[shelf].holdRelay(body);
        return 1;
    }

    /** Promise 38. */
    public int row(int shelf, int sort, int n) {
        if (!isShelf(shelf) || sort < 0 || sort > Shelf.BOOLEANS || n > Shelf.LONGEST) {
            return BAD;
        }
        if (n < 0) {
            return BELOW_ZERO;
        }
        shelves[shelf].holdRow(sort, n);
        return 1;
    }

    /** Promise 39. */
    public int put(int shelf, int i, long v) {
        int refusal = refusalOfElement(shelf, i);
        if (refusal != 0) {
            return refusal;
        }
        shelves[shelf].lay(i, v);
        return 1;
    }

    /** Promise 40. */
    public long element(int shelf, int i) {
        return refusalOfElement(shelf, i) != 0 ? Long.MIN_VALUE : shelves[shelf].items[i];
    }

    /** Promise 41. */
    public int shift(int shelf, int i, int other, int j, int n) {
        if (!isShelf(shelf) || !isShelf(other)) {
            return BAD;
        }
        Shelf from = shelves[shelf], to = shelves[other];
        if (from.holdsNothing() || to.holdsNothing()) {
            return NOTHING;
        }
        if (!from.holdsRow() || !to.holdsRowOf(from.sort)) {
            return OTHER_KIND;
        }
        if (!from.hasPlaces(i, n) || !to.hasPlaces(j, n)) {
            return NO_PLACE;
        }
        System.arraycopy(from.items, i, to.items, j, n);
        return n;
    }

    /** Promise 42. */
    public int taken(int shelf, int k) {
        if (!isShelf(shelf) || !Relays.isKind(k)) {
            return BAD;
        }
        Shelf from = shelves[shelf];
        if (from.holdsNothing()) {
            return NOTHING;
        }
        if (from.holdsRow()) {
            return OTHER_KIND;
        }
        int kind = relays.kindOf(from.relay);
        return Relays.isUnder(kind, k) ? kind : OTHER_KIND;
    }

    /** Promise 43. */
    public int count(int what) {
        switch (what) {
            case 0: return sky.size;
            case 1: return deed.size;
            case 2: return deed.arrived();
            case 3: return text.length;
            case 4: return changes.done;
            case 5: return relays.size;
            case 6: return relays.ran;
            default: return BAD;
        }
    }

    // ---- what the calls share

    private boolean isWorldNumber(int world) {
        return world >= 0 && world < sky.size;
    }

    private boolean isPair(int pq) {
        return pq >= 0 && pq / 10 < sky.size && pq % 10 < sky.size && pq / 10 != pq % 10;
    }

    private static boolean isStep(int t) {
        return t >= 0 && t <= LAST_STEP;
    }

    private static boolean isShelf(int shelf) {
        return shelf >= 0 && shelf < SHELVES;
    }

    private boolean isMendable(int number, int what) {
        if (what == 3 || what == 4) {
            return number == 0;
        }
        return what >= 0 && what < 3 && isWorldNumber(number);
    }

    private boolean isFit(int number, int what, int v) {
        switch (what) {
            case 0: return v >= 1 && v <= LONGEST_PERIOD;
            case 1: return v >= 0 && v < sky.periods[number];
            case 2: return v >= 1 && v <= WIDEST_RING;
            case 3: return v >= 0 && v <= WIDEST_HIDE;
            default: return v >= 0 && v < TWELVE;
        }
    }

    private int told(int number, int what) {
        switch (what) {
            case 0: return sky.periods[number];
            case 1: return sky.starts[number];
            case 2: return sky.rings[number];
            case 3: return sky.hide;
            default: return storm;
        }
    }

    private void tell(int number, int what, int v) {
        switch (what) {
            case 0: sky.periods[number] = v; break;
            case 1: sky.starts[number] = v; break;
            case 2: sky.rings[number] = v; break;
            case 3: sky.hide = v; break;
            default: storm = v; break;
        }
        if (what == 3) {
            sky.forgetAll();
        } else if (what < 3) {
            sky.forgetWorld(number);
        }
    }

    private int ofWorld(int number, int what) {
        switch (what) {
            case 0: case 1: case 2: return told(number, what);
            case 3: return sky.placeAt(number, deed.now);
            case 4: return deed.led[number];
            default: return BAD;
        }
    }

    private int ofTheWhole(int what) {
        switch (what) {
            case 20: return sky.hide;
            case 21: return storm;
            case 22: return deed.now;
            case 23: return sky.round();
            default: return BAD;
        }
    }

    private int nextOfAll(int t) {
        int round = sky.round();
        sky.turnTo(t);
        for (int i = 0; i < round; i++) {
            if (sky.allMeet()) {
                return t + i;
            }
            sky.forward();
        }
        return NOT;
    }

    private int refusalOfBook(int shelf) {
        if (!isShelf(shelf)) {
            return BAD;
        }
        if (shelves[shelf].holdsNothing()) {
            return NOTHING;
        }
        return shelves[shelf].holdsRowOf(Shelf.SHORTS) ? 0 : OTHER_KIND;
    }

    private int refusalOfElement(int shelf, int i) {
        if (!isShelf(shelf)) {
            return BAD;
        }
        if (shelves[shelf].holdsNothing()) {
            return NOTHING;
        }
        if (!shelves[shelf].holdsRow()) {
            return OTHER_KIND;
        }
        return shelves[shelf].hasPlaces(i, 1) ? 0 : NO_PLACE;
    }

    private int firstWrong(Shelf book) {
        for (int at = 0; at < book.length; at += 3) {
            if (at > book.length - 3) {
                return at / 3;
            }
            int t = (int) book.items[at], pq = (int) book.items[at + 1], saw = (int) book.items[at + 2];
            if (!isStep(t) || !isPair(pq) || saw < 0 || saw > 1 || sky.meet(pq / 10, pq % 10, t) != (saw == 1)) {
                return at / 3;
            }
        }
        return NOT;
    }

    /** The starts of a world (bits) by which the book is so; its own start is laid back. */
    private int startsThatFit(Shelf book, int world) {
        int own = sky.starts[world];
        int fit = 0;
        for (int s = 0; s < sky.periods[world]; s++) {
            sky.starts[world] = s;
            if (firstWrong(book) == NOT) {
                fit |= 1 << s;
            }
        }
        sky.starts[world] = own;
        return fit;
    }

    private static int lowestBit(int bits) {
        return Integer.bitCount((bits & -bits) - 1);
    }

    private int draw(int by) {
        chance = chance * 1103515245 + 12345;
        return left(chance >>> 8, by);
    }

    private void carry(int m) {
        int from = deed.holders[m], to = deed.targets[m];
        if (from == NOT || from == to) {
            return;
        }
        int steps = ways.fewestSteps(from, to, deed.now);
        if (steps == NOT) {
            return;
        }
        int on = ways.holder(from, to, steps, 1);
        if (on == from) {
            return;
        }
        deed.handOn(m, on, draw(TWELVE) < storm);
    }

    /** What is left of a number by another one; 0 where nothing can be parted. */
    private static int left(int number, int by) {
        return by < 1 ? 0 : number % by;
    }

    private static long commonMeasure(long a, long b) {
        // Euclid's steps for longs stay below 100.
        for (int i = 0; i < 100 && b != 0; i++) {
            long rest = a % b;
            a = b;
            b = rest;
        }
        return a;
    }

    private static int commonRound(int a, int b) {
        int measure = (int) commonMeasure(a, b);
        return measure < 1 ? 1 : a / measure * b;
    }

    private static long lowest(long above, long below, int part) {
        long measure = commonMeasure(above, below);
        if (measure < 1) {
            return 0;
        }
        return (part == 0 ? above : below) / measure;
    }

    /** The tape, and the text that it last became, worked out by codes in the order of their use. */
    private static final class Law {
        private static final int TAPE = 120, CODES = 128, OPEN = 6, LEVELS = 5, DIGITS = 4;
        private static final int NUMBER = 1, NAME = 2, WHETHER = 3, COUNTS = 4, MINUS = 5, NEITHER = 6;

        final int[] names = new int[6];
        private final int[] tape = new int[TAPE];
        private final int[] stack = new int[CODES];
        private int[] codes = new int[CODES];
        private int[] values = new int[CODES];
        private int[] newCodes = new int[CODES];
        private int[] newValues = new int[CODES];
        private int size, newSize;
        private int length, at, fault;

        boolean take(int letter) {
            if (length >= TAPE) {
                return false;
            }
            tape[length] = letter;
            length++;
            return true;
        }

        boolean isTold() {
            return size > 0;
        }

        /** The tape becomes the law, and is empty: -1, or the fault, and the law stays. */
        int read() {
            at = 0;
            fault = -1;
            newSize = 0;
            readLine();
            for (int line = 1; line < TAPE && fault < 0 && letter() == ';'; line++) {
                at++;
                readLine();
            }
            if (fault < 0 && at < length) {
                fault = at;
            }
            if (fault < 0) {
                takeNewCodes();
            }
            length = 0;
            return fault;
        }

        private void takeNewCodes() {
            int[] oldCodes = codes, oldValues = values;
            codes = newCodes;
            values = newValues;
            size = newSize;
            newCodes = oldCodes;
            newValues = oldValues;
        }

        private void readLine() {
            readPart(0, 0);
            int whether = -1;
            if (fault < 0 && letter() == '?') {
                at++;
                whether = newSize;
                emit(WHETHER, 0);
                readPart(0, 0);
            }
            emit(COUNTS, 0);
            if (whether >= 0 && whether < CODES) {
                newValues[whether] = newSize;
            }
        }

        /** Levels 0 to 4: | and & and < = > and + - and * / %; each is made of parts of the next one. */
        private void readPart(int level, int open) {
            if (level >= LEVELS) {
                readOne(open);
                return;
            }
            readPart(level + 1, open);
            for (int i = 0; i < TAPE && fault < 0 && levelOf(letter()) == level; i++) {
                if (level == 2 && i > 0) {
                    return;
                }
                int sign = letter();
                at++;
                readPart(level + 1, open);
                emit(sign, 0);
            }
        }

        private void readOne(int open) {
            int sign = letter();
            if (sign >= '0' && sign <= '9') {
                readNumber();
            } else if (nameOf(sign) >= 0) {
                at++;
                emit(NAME, nameOf(sign));
            } else if (open >= OPEN || sign != '(' && sign != '!' && sign != '-') {
                fault = at;
            } else if (sign == '(') {
                at++;
                readPart(0, open + 1);
                close();
            } else {
                at++;
                readOne(open + 1);
                emit(sign == '!' ? NEITHER : MINUS, 0);
            }
        }

        private void close() {
            if (fault >= 0) {
                return;
            }
            if (letter() == ')') {
                at++;
            } else {
                fault = at;
            }
        }

        private void readNumber() {
            int number = 0;
            for (int i = 0; i < DIGITS && letter() >= '0' && letter() <= '9'; i++) {
                number = number * 10 + letter() - '0';
                at++;
            }
            emit(NUMBER, number);
        }

        private int letter() {
            return at < length ? tape[at] : -1;
        }

        private void emit(int code, int value) {
            if (newSize < CODES) {
                newCodes[newSize] = code;
                newValues[newSize] = value;
                newSize++;
            }
        }

        private static int nameOf(int sign) {
            switch (sign) {
                case 'd': return 0;
                case 'r': return 1;
                case 'q': return 2;
                case 'h': return 3;
                case 'a': return 4;
                case 'b': return 5;
                default: return -1;
            }
        }

        private static int levelOf(int sign) {
            switch (sign) {
                case '|': return 0;
                case '&': return 1;
                case '<': case '=': case '>': return 2;
                case '+': case '-': return 3;
                case '*': case '/': case '%': return 4;
                default: return -1;
            }
        }

        /** What counts by the names as they are told; places on the stack are looked at all the same. */
        int value() {
            int top = 0;
            for (int i = 0; i < size; i++) {
                int code = codes[i], value = values[i];
                if (code == NUMBER || code == NAME) {
                    if (top >= CODES || code == NAME && value >= names.length) {
                        return 0;
                    }
                    stack[top] = code == NUMBER ? value : names[value];
                    top++;
                    continue;
                }
                if (top < 1) {
                    return 0;
                }
                top--;
                int last = stack[top];
                if (code == COUNTS) {
                    return last;
                }
                if (code == WHETHER) {
                    // A line that does not count is passed over: codes only ever lead on.
                    i = last == 0 ? Math.max(i, value - 1) : i;
                    continue;
                }
                boolean alone = code == NEITHER || code == MINUS;
                if (!alone && top < 1) {
                    return 0;
                }
                if (!alone) {
                    top--;
                }
                stack[top] = workOut(code, stack[top], last);
                top++;
            }
            return 0;
        }

        private static int workOut(int sign, int x, int y) {
            switch (sign) {
                case NEITHER: return y == 0 ? 1 : 0;
                case MINUS: return -y;
                case '|': return x != 0 || y != 0 ? 1 : 0;
                case '&': return x != 0 && y != 0 ? 1 : 0;
                case '<': return x < y ? 1 : 0;
                case '=': return x == y ? 1 : 0;
                case '>': return x > y ? 1 : 0;
                case '+': return x + y;
                case '-': return x - y;
                case '*': return x * y;
                case '/': return y == 0 ? 0 : x / y;
                case '%': return y == 0 ? 0 : x % y;
                default: return 0;
            }
        }
    }

    /** The worlds and who sees whom; one place more than WORLDS is for a relay that is only thought of. */
    private static final class Sky {
        static final int MOST = WORLDS + 1, PAIRS = 21;
        private static final int PHASES = LONGEST_PERIOD, TABLE = PHASES * PHASES;
        private static final int UNKNOWN = 0, HIDDEN = 1, SEEN = 2;
        private static final int TURN = 360, HALF = 180;
        /** The lesser and the greater world of each pair, in the order of a word's bits. */
        static final int[] LESSER = {0, 0, 1, 0, 1, 2, 0, 1, 2, 3, 0, 1, 2, 3, 4, 0, 1, 2, 3, 4, 5};
        static final int[] GREATER = {1, 2, 2, 3, 3, 3, 4, 4, 4, 4, 5, 5, 5, 5, 5, 6, 6, 6, 6, 6, 6};

        final int[] periods = new int[MOST];
        final int[] starts = new int[MOST];
        final int[] rings = new int[MOST];
        int size;
        int hide = 30;
        private final Law text;
        /** By pair and by the phases of both: sights do not ask for starts, so moved starts cost nothing. */
        private final byte[] sightTable = new byte[PAIRS * TABLE];
        private final int[] phases = new int[MOST];
        /** Grows with every change that sights may ask for: what was learnt by an older one is void. */
        int version;
        private int everWord;
        private boolean everKnown;

        Sky(Law text) {
            this.text = text;
        }

        static boolean isWorld(int period, int start, int ring) {
            return period >= 1 && period <= LONGEST_PERIOD && start >= 0 && start < period
                && ring >= 1 && ring <= WIDEST_RING;
        }

        int add(int period, int start, int ring) {
            if (size >= MOST) {
                return FULL;
            }
            periods[size] = period;
            starts[size] = start;
            rings[size] = ring;
            forgetWorld(size);
            size++;
            return size - 1;
        }

        void dropLast() {
            if (size > 0) {
                size--;
                forgetWorld(size);
            }
        }

        void forgetAll() {
            Arrays.fill(sightTable, (byte) UNKNOWN);
            everKnown = false;
            version++;
        }

        void forgetWorld(int world) {
            for (int k = 0; k < PAIRS; k++) {
                if (LESSER[k] == world || GREATER[k] == world) {
                    forgetPair(k);
                }
            }
            everKnown = false;
            version++;
        }

        private void forgetPair(int pair) {
            for (int at = pair * TABLE; at < (pair + 1) * TABLE && at < sightTable.length; at++) {
                sightTable[at] = UNKNOWN;
            }
        }

        int phase(int world, int t) {
            return left(t + starts[world], periods[world]);
        }

        private int placeIn(int world, int phase) {
            return periods[world] < 1 ? 0 : phase * TURN / periods[world];
        }

        int placeAt(int world, int t) {
            return placeIn(world, phase(world, t));
        }

        int round() {
            int round = 1;
            for (int w = 0; w < size; w++) {
                round = commonRound(round, periods[w]);
            }
            return round;
        }

        int roundOfTwo(int p, int q) {
            return commonRound(periods[p], periods[q]);
        }

        boolean meet(int p, int q, int t) {
            int i = Math.min(p, q), j = Math.max(p, q);
            return look(j * (j - 1) / 2 + i, phase(i, t), phase(j, t));
        }

        private boolean look(int pair, int phaseOfLesser, int phaseOfGreater) {
            int at = pair * TABLE + phaseOfLesser * PHASES + phaseOfGreater;
            if (at < 0 || at >= sightTable.length) {
                return false;
            }
            if (sightTable[at] == UNKNOWN) {
                sightTable[at] = (byte) (lawful(pair, phaseOfLesser, phaseOfGreater) ? SEEN : HIDDEN);
            }
            return sightTable[at] == SEEN;
        }

        private boolean lawful(int pair, int phaseOfLesser, int phaseOfGreater) {
            int lesser = LESSER[pair], greater = GREATER[pair];
            int a = placeIn(lesser, phaseOfLesser), b = placeIn(greater, phaseOfGreater);
            int far = Math.abs(a - b);
            int apart = Math.min(far, TURN - far);
            if (!text.isTold()) {
                return apart + hide <= HALF;
            }
            int[] names = text.names;
            names[0] = apart;
            names[1] = rings[lesser];
            names[2] = rings[greater];
            names[3] = hide;
            names[4] = a;
            names[5] = b;
            return text.value() != 0;
        }

        // Long walks turn all worlds together, step by step, and never divide.

        void turnTo(int t) {
            for (int w = 0; w < size; w++) {
                phases[w] = phase(w, t);
            }
        }

        void forward() {
            for (int w = 0; w < size; w++) {
                int on = phases[w] + 1;
                phases[w] = on < periods[w] ? on : 0;
            }
        }

        void backward() {
            for (int w = 0; w < size; w++) {
                phases[w] = phases[w] > 0 ? phases[w] - 1 : periods[w] - 1;
            }
        }

        /** The pairs (bits) that see each other where the worlds are turned to. */
        int word() {
            int word = 0, pair = 0;
            for (int j = 1; j < size; j++) {
                for (int i = 0; i < j; i++) {
                    if (look(pair, phases[i], phases[j])) {
                        word |= 1 << pair;
                    }
                    pair++;
                }
            }
            return word;
        }

        boolean allMeet() {
            int pair = 0;
            for (int j = 1; j < size; j++) {
                for (int i = 0; i < j; i++) {
                    if (!look(pair, phases[i], phases[j])) {
                        return false;
                    }
                    pair++;
                }
            }
            return true;
        }

        /** How many pairs there are; their bits come first in every word. */
        int pairs() {
            return size < 2 ? 0 : size * (size - 1) / 2;
        }

        /** Those of the worlds (bits) to which a sight of the word leads at once, and themselves. */
        int besides(int worlds, int word) {
            int more = worlds, pairs = pairs();
            for (int k = 0; k < pairs; k++) {
                if ((word >>> k & 1) != 0) {
                    int both = 1 << LESSER[k] | 1 << GREATER[k];
                    if ((worlds & both) != 0) {
                        more |= both;
                    }
                }
            }
            return more;
        }

        int reached(int world, int word) {
            int bits = 1 << world;
            for (int i = 0; i < MOST; i++) {
                int more = besides(bits, word);
                if (more == bits) {
                    break;
                }
                bits = more;
            }
            return bits;
        }

        /** Whether sights of any steps lead from one world to another one: if not, nothing need be sought. */
        boolean everLed(int p, int q) {
            if (!everKnown) {
                everWord = 0;
                int pairs = pairs();
                for (int k = 0; k < pairs; k++) {
                    int round = roundOfTwo(LESSER[k], GREATER[k]);
                    for (int t = 0; t < round && (everWord >>> k & 1) == 0; t++) {
                        if (look(k, phase(LESSER[k], t), phase(GREATER[k], t))) {
                            everWord |= 1 << k;
                        }
                    }
                }
                everKnown = true;
            }
            return (reached(p, everWord) & 1 << q) != 0;
        }

        int between(int p, int q, int t) {
            int from = placeAt(p, t), to = placeAt(q, t);
            int way = (to - from + TURN) % TURN;
            if (way == 0 || way == HALF) {
                return 0;
            }
            if (way > HALF) {
                from = to;
                way = TURN - way;
            }
            int bits = 0;
            for (int w = 0; w < size; w++) {
                int off = (placeAt(w, t) - from + TURN) % TURN;
                if (off > 0 && off < way) {
                    bits |= 1 << w;
                }
            }
            return bits;
        }
    }

    /** Messages in thought. */
    private static final class Ways {
        private static final int NEVER = 1000000000;

        int longestWait, longestFrom, bestStart, bestWait;
        private final Sky sky;
        /** Waits and relays are dear and asked for part by part: the latest ones are kept with their version. */
        private boolean waitEnds;
        private int waitOf = -1, waitVersion, relayOf = -1, relayVersion;
        /** Sights of the steps of the latest fewestSteps(). */
        private final int[] words = new int[WITHIN];
        /** By step and world: how many hands are still needed to be there as soon as can be. */
        private final int[] needed = new int[(WITHIN + 1) * WORLDS];
        private int[] ofWorlds = new int[Sky.MOST];
        private int[] renewed = new int[Sky.MOST];

        Ways(Sky sky) {
            this.sky = sky;
        }

        int fewestSteps(int p, int q, int t) {
            if (!sky.everLed(p, q)) {
                return NOT;
            }
            int have = 1 << p, wanted = 1 << q;
            sky.turnTo(t);
            for (int i = 0; i < WITHIN; i++) {
                words[i] = sky.word();
                have = sky.besides(have, words[i]);
                if ((have & wanted) != 0) {
                    return i + 1;
                }
                sky.forward();
            }
            return NOT;
        }

        /** Who has it k steps on; to be asked behind fewestSteps() of the same two, which told the steps. */
        int holder(int p, int q, int steps, int k) {
            countNeeded(q, steps);
            int has = p;
            for (int i = 0; i < k && i < steps; i++) {
                has = nextHolder(has, i);
            }
            return has;
        }

        int handsOnWay(int p, int q, int steps) {
            countNeeded(q, steps);
            return needed[p];
        }

        private void countNeeded(int q, int steps) {
            int last = steps * WORLDS, pairs = sky.pairs();
            for (int w = 0; w < sky.size; w++) {
                needed[last + w] = w == q ? 0 : NEVER;
            }
            for (int i = steps - 1; i >= 0; i--) {
                int here = i * WORLDS, on = here + WORLDS;
                System.arraycopy(needed, on, needed, here, sky.size);
                for (int k = 0; k < pairs; k++) {
                    if ((words[i] >>> k & 1) != 0) {
                        int a = Sky.LESSER[k], b = Sky.GREATER[k];
                        needed[here + a] = Math.min(needed[here + a], needed[on + b] + 1);
                        needed[here + b] = Math.min(needed[here + b], needed[on + a] + 1);
                    }
                }
            }
        }

        private int nextHolder(int has, int i) {
            int here = i * WORLDS, on = here + WORLDS;
            int beside = sky.besides(1 << has, words[i]);
            for (int w = 0; w < sky.size; w++) {
                int hand = w == has ? 0 : 1;
                if ((beside >>> w & 1) != 0 && needed[on + w] + hand == needed[here + has]) {
                    return w;
                }
            }
            return has;
        }

        int fewestHands(int p, int q, int t) {
            if (!sky.everLed(p, q)) {
                return NOT;
            }
            Arrays.fill(ofWorlds, NEVER);
            ofWorlds[p] = 0;
            sky.turnTo(t);
            // One hand is the least there can be: no later step betters it.
            for (int i = 0; i < WITHIN && ofWorlds[q] > 1; i++) {
                renew(sky.word(), 1);
                sky.forward();
            }
            return ofWorlds[q] < NEVER ? ofWorlds[q] : NOT;
        }

        /** Each world takes the least of its own number and, a hand more, of those it sees. */
        private void renew(int word, int hand) {
            System.arraycopy(ofWorlds, 0, renewed, 0, Sky.MOST);
            int pairs = sky.pairs();
            for (int k = 0; k < pairs; k++) {
                if ((word >>> k & 1) != 0) {
                    int a = Sky.LESSER[k], b = Sky.GREATER[k];
                    renewed[a] = Math.min(renewed[a], ofWorlds[b] + hand);
                    renewed[b] = Math.min(renewed[b], ofWorlds[a] + hand);
                }
            }
            int[] old = ofWorlds;
            ofWorlds = renewed;
            renewed = old;
        }

        boolean learnWait(int p, int q) {
            int of = p * 10 + q;
            if (waitOf != of || waitVersion != sky.version) {
                waitEnds = measureWait(p, q, WITHIN);
                waitOf = of;
                waitVersion = sky.version;
            }
            return waitEnds;
        }

        /**
         * The longest wait and the first step that has it; false if some wait is above the limit. All steps are
         * met in one walk from the last one down, with the step at which what a world has comes to q.
         */
        private boolean measureWait(int p, int q, int limit) {
            int round = sky.round();
            int last = round + WITHIN - 1;
            Arrays.fill(ofWorlds, NEVER);
            longestWait = 0;
            longestFrom = 0;
            sky.turnTo(last);
            for (int t = last; t >= 0; t--) {
                ofWorlds[q] = t + 1;
                renew(sky.word(), 0);
                if (t < round) {
                    int wait = ofWorlds[p] - t;
                    if (wait > limit) {
                        return false;
                    }
                    if (wait >= longestWait) {
                        longestWait = wait;
                        longestFrom = t;
                    }
                }
                sky.backward();
            }
            return true;
        }

        boolean learnRelay(int p, int q, int period, int ring) {
            int of = ((p * 10 + q) * 100 + period) * 10 + ring;
            if (relayOf == of && relayVersion == sky.version) {
                return bestStart != NOT;
            }
            bestStart = NOT;
            int relay = sky.add(period, 0, ring);
            if (relay < 0) {
                return false;
            }
            int limit = WITHIN;
            for (int s = 0; s < period; s++) {
                sky.starts[relay] = s;
                if (measureWait(p, q, limit)) {
                    bestStart = s;
                    bestWait = longestWait;
                    // Only what is less than the best can still take its place.
                    limit = bestWait - 1;
                }
            }
            sky.dropLast();
            relayOf = of;
            relayVersion = sky.version;
            return bestStart != NOT;
        }
    }

    /** What is so in deed, and what an image keeps of it. */
    private static final class Deed {
        static final int MESSAGES = 10;

        int now, size;
        final int[] senders = new int[MESSAGES];
        final int[] targets = new int[MESSAGES];
        final int[] holders = new int[MESSAGES];
        final int[] arrivals = new int[MESSAGES];
        final int[] led = new int[WORLDS];

        int add(int from, int to) {
            senders[size] = from;
            targets[size] = to;
            holders[size] = from;
            arrivals[size] = NOT;
            size++;
            return size - 1;
        }

        void handOn(int m, int to, boolean lost) {
            led[holders[m]]++;
            holders[m] = lost ? NOT : to;
            if (holders[m] == targets[m]) {
                arrivals[m] = now + 1;
            }
        }

        int arrived() {
            int came = 0;
            for (int m = 0; m < size; m++) {
                if (arrivals[m] != NOT) {
                    came++;
                }
            }
            return came;
        }

        int ofMessage(int m, int what) {
            switch (what) {
                case 0: return senders[m];
                case 1: return targets[m];
                case 2: return holders[m];
                case 3: return arrivals[m];
                default: return BAD;
            }
        }

        void copy(Deed other) {
            now = other.now;
            size = other.size;
            System.arraycopy(other.senders, 0, senders, 0, MESSAGES);
            System.arraycopy(other.targets, 0, targets, 0, MESSAGES);
            System.arraycopy(other.holders, 0, holders, 0, MESSAGES);
            System.arraycopy(other.arrivals, 0, arrivals, 0, MESSAGES);
            System.arraycopy(other.led, 0, led, 0, WORLDS);
        }
    }

    /** Changes that can be undone (the first `done`) and done again (those behind). */
    private static final class Changes {
        private static final int KEPT = 40;

        int done, size;
        final int[] numbers = new int[KEPT];
        final int[] whats = new int[KEPT];
        final int[] olds = new int[KEPT];
        final int[] news = new int[KEPT];

        void note(int number, int what, int old, int fresh) {
            if (done >= KEPT) {
                dropFirst();
            }
            numbers[done] = number;
            whats[done] = what;
            olds[done] = old;
            news[done] = fresh;
            done++;
            size = done;
        }

        private void dropFirst() {
            System.arraycopy(numbers, 1, numbers, 0, KEPT - 1);
            System.arraycopy(whats, 1, whats, 0, KEPT - 1);
            System.arraycopy(olds, 1, olds, 0, KEPT - 1);
            System.arraycopy(news, 1, news, 0, KEPT - 1);
            done = KEPT - 1;
        }

        int stepBack() {
            done--;
            return done;
        }

        int stepOn() {
            done++;
            return done - 1;
        }
    }

    /** Relays' acts: bodies are found from a kind upward, as classes find them. */
    private static final class Relays {
        static final int BODIES = 50, TRACED = 24;
        private static final int KINDS = 8, ACTS = 4, DEEPEST = 40;
        private static final int SEES = 0, SENDS = 1, TURNS = 2, TELLS = 3;
        private static final int[] ABOVE = {-1, 0, 0, 2, 1, 3, 0, 4};
        /** By kind and act: the kind's own body; 0: it has none. A relay has those of its interfaces. */
        private static final int[] OWN = {
            1, 10, 11, 2,
            20, 0, 0, 0,
            0, 30, 0, 0,
            0, 41, 40, 0,
            0, 0, 50, 0,
            0, 0, 0, 60,
            70, 0, 0, 0,
            0, 80, 0, 81
        };

        int size, ran;
        final int[] traced = new int[TRACED];
        private final int[] kinds = new int[BODIES];
        private int number;

        static boolean isKind(int kind) {
            return kind >= 0 && kind < KINDS;
        }

        static boolean isUnder(int kind, int top) {
            int at = kind;
            for (int i = 0; i < KINDS && isKind(at); i++) {
                if (at == top) {
                    return true;
                }
                at = ABOVE[at];
            }
            return false;
        }

        int add(int kind) {
            kinds[size] = kind;
            size++;
            return size - 1;
        }

        int kindOf(int relay) {
            return relay >= 0 && relay < size ? kinds[relay] : -1;
        }

        int perform(int relay, int act, int x) {
            ran = 0;
            if (relay < 0 || relay >= size || act < 0 || act >= ACTS) {
                return 0;
            }
            number = relay;
            return run(kinds[relay], act, x, 0);
        }

        private static int holderOf(int kind, int act) {
            int at = kind;
            for (int i = 0; i < KINDS && isKind(at); i++) {
                if (OWN[at * ACTS + act] != 0) {
                    return at;
                }
                at = ABOVE[at];
            }
            return -1;
        }

        private void begin(int body) {
            if (ran < TRACED) {
                traced[ran] = body;
            }
            ran++;
        }

        /** The first body from a kind on. The depth ends what no kind of the document needs. */
        private int run(int from, int act, int x, int depth) {
            int kind = holderOf(from, act);
            if (kind < 0 || depth > DEEPEST) {
                return 0;
            }
            int own = kinds[number], above = ABOVE[kind], body = OWN[kind * ACTS + act], deeper = depth + 1;
            begin(body);
            switch (body) {
                case 1: return x + number;
                case 2: return run(own, SENDS, x, deeper) - run(own, TURNS, 1, deeper);
                case 10: return run(own, SEES, x, deeper) * 2;
                case 11: return x ^ number;
                case 20: return run(above, SEES, x, deeper) + 3;
                case 30: return -run(above, SENDS, x, deeper);
                case 40: return run(above, TURNS, x, deeper) * 3;
                case 41: return run(above, SENDS, x + 1, deeper);
                case 50: return run(above, TURNS, x, deeper) - run(own, SEES, 2, deeper);
                case 60: return run(above, TELLS, x, deeper) ^ 5;
                case 70: return run(above, SEES, x, deeper) * 2;
                case 80: return run(above, SENDS, x, deeper) + run(own, TURNS, 2, deeper);
                case 81: return run(above, TELLS, x, deeper) - 1;
                default: return 0;
            }
        }
    }

    /** A shelf; its room for a row is made once and used again. */
    private static final class Shelf {
        static final int BYTES = 0, SHORTS = 1, INTS = 2, BOOLEANS = 4, LONGEST = 60;

        final long[] items = new long[LONGEST];
        int sort = -1, length;
        int relay = -1;

        boolean holdsNothing() {
            return sort < 0 && relay < 0;
        }

        boolean holdsRow() {
            return sort >= 0;
        }

        boolean holdsRowOf(int wanted) {
            return sort >= 0 && sort == wanted;
        }

        boolean hasPlaces(int from, int n) {
            return from >= 0 && n >= 0 && from <= length && n <= length - from;
        }

        void holdRelay(int body) {
            relay = body;
            sort = -1;
            length = 0;
        }

        void holdRow(int newSort, int newLength) {
            relay = -1;
            sort = newSort;
            length = newLength;
            Arrays.fill(items, 0L);
        }

        void lay(int i, long v) {
            switch (sort) {
                case BYTES: items[i] = (byte) v; break;
                case SHORTS: items[i] = (short) v; break;
                case INTS: items[i] = (int) v; break;
                case BOOLEANS: items[i] = v != 0 ? 1 : 0; break;
                default: items[i] = v; break;
            }
        }
    }
}

import java.util.Arrays;

/**
 * A common with kissing gates, its persons, and what may be asked of them. The document's numbered
 * promises say what each call answers; words such as RUSTED, WOULD and THE LOG are the document's.
 */
public final class KissGates {
    public static final int NONE = -1, UNKNOWN = -1000000001, OUTSIDE = -1000000002, NOT = -1000000003, FULL = -1000000004;

    private static final int MOST_LETTERS = 240;
    private static final int MOST_GATES = 5;
    private static final int MOST_PERSONS = 7;
    private static final int MOST_RUST = 99;
    private static final int MOST_LIKED = 9;
    private static final int MOST_LOGGED = 20;
    private static final int MOST_UNDONE = 20;
    private static final int MOST_KNOWN = 6;
    private static final int MOST_WRITTEN = 15;
    private static final int IMAGES = 2;
    private static final int HOURS_A_CALL = 60;
    private static final int LAST_HOUR = 9000;
    private static final int MOST_TRIED = 40;
    private static final int MOST_OILING = 200;
    private static final int MOST_DAYS = 60;
    private static final int HUNDRED = 100;
    private static final int BILLION = 1000000000;
    private static final int HOW_MUCH = -2;
    private static final int GRANTED = 0;

    private final Text text;
    private final State state;
    private final Past past;
    private final Notes notes;
    private final Pairing pairing;
    private final Crossing crossing;
    private final State[] images;
    private final boolean[] kept;
    private final int[] keptSeeds;
    private final int[] madeIll;
    private Common land;
    private Common spare;
    private int lastFault;
    private int drawn;

    public KissGates() {
        text = new Text();
        state = new State();
        past = new Past();
        notes = new Notes();
        pairing = new Pairing();
        crossing = new Crossing();
        images = new State[IMAGES];
        for (int i = 0; i < IMAGES; i++) {
            images[i] = new State();
        }
        kept = new boolean[IMAGES];
        keptSeeds = new int[IMAGES];
        madeIll = new int[MOST_PERSONS];
        land = new Common();
        spare = new Common();
        land.empty();
        state.begin(land);
        lastFault = NONE;
        drawn = 0;
    }

    // ---- the common

    public int feed(int letter) {
        if (letter < 0 || letter > 255) {
            return OUTSIDE;
        }
        if (text.length >= MOST_LETTERS) {
            return FULL;
        }
        return text.append(letter);
    }

    public int common() {
        int fault = text.readInto(spare);
        lastFault = text.faultAt;
        text.length = 0;
        if (fault != Text.FAULTLESS) {
            return -10 - fault;
        }
        Common old = land;
        land = spare;
        spare = old;
        state.begin(land);
        past.forget();
        notes.forget();
        for (int i = 0; i < IMAGES; i++) {
            kept[i] = false;
        }
        return land.persons;
    }

    public int fault() {
        return lastFault;
    }

    public int told(int what) {
        switch (what) {
            case 0: return land.gates;
            case 1: return land.persons;
            case 2: return text.length;
            case 3: return state.hours;
            case 4: return state.meetings;
            case 5: return state.holes;
            case 6: return state.inside;
            case 7: return state.colds;
            case 8: return state.waiting(land);
            case 9: return state.rusted(land);
            case 10: return state.logged;
            case 11: return notes.known;
            case 12: return notes.written;
            case 13: return past.count;
            default: return OUTSIDE;
        }
    }

    public int gate(int g, int what) {
        if (!land.hasGate(g)) {
            return UNKNOWN;
        }
        switch (what) {
            case 0: return land.rust[g];
            case 1: return state.unused[g];
            case 2: return state.isRusted(land, g) ? 1 : 0;
            case 3: return state.waitingAt(land, g);
            default: return OUTSIDE;
        }
    }

    public int person(int p, int what) {
        if (!land.hasPerson(p)) {
            return UNKNOWN;
        }
        switch (what) {
            case 0: return (state.inside >> p) & 1;
            case 1: return state.waitsAt[p];
            case 2: return (state.colds >> p) & 1;
            case 3: return land.wouldMeet(p, state.inside);
            default: return OUTSIDE;
        }
    }

    public int likes(int p, int q) {
        if (!land.hasPerson(p) || !land.hasPerson(q) || p == q) {
            return UNKNOWN;
        }
        return land.liking(p, q);
    }

    public int logged(int i) {
        if (i < 0 || i >= state.logged) {
            return NONE;
        }
        return state.log[state.logged - 1 - i];
    }

    // ---- what is done

    public int hour(int n) {
        int refusal = refusalOfHours(n);
        if (refusal != GRANTED) {
            return refusal;
        }
        past.remember(state);
        for (int i = 0; i < n; i++) {
            state.passHour(land);
        }
        return state.hours;
    }

    public int come(int p, int g) {
        if (!land.hasPerson(p) || !land.hasGate(g)) {
            return UNKNOWN;
        }
        if (state.isRusted(land, g) || state.waitsAt[p] == g) {
            return NOT;
        }
        past.remember(state);
        state.waitsAt[p] = g;
        return state.waitingAt(land, g);
    }

    public int goOff(int p) {
        if (!land.hasPerson(p)) {
            return UNKNOWN;
        }
        int g = state.waitsAt[p];
        if (g == NONE) {
            return NOT;
        }
        past.remember(state);
        state.waitsAt[p] = NONE;
        return g;
    }

    public int hole(int p) {
        if (!land.hasPerson(p)) {
            return UNKNOWN;
        }
        if (state.waitsAt[p] != NONE) {
            return NOT;
        }
        past.remember(state);
        state.inside ^= 1 << p;
        state.holes++;
        return (state.inside >> p) & 1;
    }

    public int oil(int g) {
        if (!land.hasGate(g)) {
            return UNKNOWN;
        }
        int was = state.isRusted(land, g) ? 1 : 0;
        past.remember(state);
        state.unused[g] = 0;
        return was;
    }

    public int well(int p) {
        if (!land.hasPerson(p)) {
            return UNKNOWN;
        }
        int was = (state.colds >> p) & 1;
        past.remember(state);
        state.colds &= ~(1 << p);
        return was;
    }

    public int drift(int n) {
        int refusal = refusalOfHours(n);
        if (refusal != GRANTED) {
            return refusal;
        }
        past.remember(state);
        for (int i = 0; i < n; i++) {
            comeByDraw();
            state.passHour(land);
        }
        return state.meetings;
    }

    public int undo() {
        if (past.count == 0) {
            return NOT;
        }
        past.restore(state);
        return past.count;
    }

    private int refusalOfHours(int n) {
        if (n < 1 || n > HOURS_A_CALL) {
            return OUTSIDE;
        }
        if (land.gates == 0) {
            return NOT;
        }
        return state.hours > LAST_HOUR ? FULL : GRANTED;
    }

    private void comeByDraw() {
        if (land.persons == 0 || land.gates == 0) {
            return;
        }
        int p = draw(land.persons);
        int g = draw(land.gates);
        if (!state.isRusted(land, g)) {
            state.waitsAt[p] = g;
        }
    }

    private int draw(int n) {
        // int arithmetic wraps at 2 to the 32, so the mask leaves what is over by 2 to the 31
        drawn = (drawn * 1103515245 + 12345) & 0x7fffffff;
        return n > 0 ? (drawn / 65536) % n : 0;
    }

    // ---- tried

    public int atOnce(int p) {
        if (p != NONE && p != HOW_MUCH && !land.hasPerson(p)) {
            return UNKNOWN;
        }
        pairing.find(land, state.inside, openGates());
        if (p == NONE) {
            return pairing.pairs;
        }
        if (p == HOW_MUCH) {
            return pairing.liking;
        }
        return pairing.other[p];
    }

    public int sides(int set, int inside) {
        if (!land.hasAll(set) || !land.hasAll(inside)) {
            return UNKNOWN;
        }
        return crossing.fewestHours(land, state.inside, openGates(), set, inside);
    }

    public int steady() {
        pairing.find(land, state.inside, openGates());
        for (int p = 0; p < land.persons; p++) {
            int others = land.wouldMeet(p, state.inside);
            for (int q = p + 1; q < land.persons; q++) {
                if (((others >> q) & 1) == 1 && wouldRather(p, q) && wouldRather(q, p)) {
                    return 0;
                }
            }
        }
        return 1;
    }

    public int loves(int i) {
        int found = 0;
        for (int p = 0; p < land.persons; p++) {
            for (int q = p + 1; q < land.persons; q++) {
                if (land.likesBest(p, q) && land.likesBest(q, p)) {
                    if (found == i) {
                        return 10 * p + q;
                    }
                    found++;
                }
            }
        }
        return i == NONE ? found : NONE;
    }

    public int first() {
        int set = 0;
        for (int p = 0; p < land.persons; p++) {
            if (state.madeIllBy(p) == state.colds) {
                set |= 1 << p;
            }
        }
        return set;
    }

    public int dies(int what) {
        if (what != 0 && what != 1) {
            return OUTSIDE;
        }
        int next = NONE;
        int hours = NONE;
        for (int g = 0; g < land.gates; g++) {
            int left = land.rust[g] - state.unused[g];
            if (left > 0 && (next == NONE || left < hours)) {
                next = g;
                hours = left;
            }
        }
        return what == 0 ? next : hours;
    }

    public int oilFor(int n) {
        if (n < 0 || n > MOST_OILING) {
            return OUTSIDE;
        }
        int times = 0;
        for (int g = 0; g < land.gates; g++) {
            times += oilings(g, n);
        }
        return times;
    }

    public int evening(int p) {
        if (!land.hasPerson(p)) {
            return UNKNOWN;
        }
        int g = state.waitsAt[p];
        if (g == NONE) {
            return NOT;
        }
        int met = land.wouldMeet(p, state.inside) & state.waitingAt(land, g);
        return Math.max(0, 10 - Integer.bitCount(met));
    }

    public int dry(int n, int q) {
        if (n < 0 || n > MOST_DAYS || q < 0 || q > HUNDRED) {
            return OUTSIDE;
        }
        long odds = BILLION;
        for (int day = 0; day < n; day++) {
            odds = odds * (HUNDRED - q) / HUNDRED;
        }
        return (int) odds;
    }

    private int openGates() {
        return land.gates - Integer.bitCount(state.rusted(land));
    }

    private boolean wouldRather(int p, int q) {
        int other = pairing.other[p];
        int liked = other == NONE ? 0 : land.liking(p, other);
        return land.liking(p, q) > liked;
    }

    private int oilings(int g, int n) {
        int times = 0;
        int unused = state.unused[g];
        for (int i = 0; i < n; i++) {
            if (unused >= land.rust[g]) {
                times++;
                unused = 0;
            }
            unused++;
        }
        return times;
    }

    // ---- what is known

    public int ill(int p, boolean is) {
        if (!land.hasPerson(p)) {
            return UNKNOWN;
        }
        if (notes.known >= MOST_KNOWN) {
            return FULL;
        }
        return notes.learn(p, is);
    }

    public int mayBe() {
        int set = 0;
        for (int p = 0; p < land.persons; p++) {
            if (notes.allows(state.madeIllBy(p))) {
                set |= 1 << p;
            }
        }
        return set;
    }

    public int ask() {
        int suspects = mayBe();
        for (int p = 0; p < land.persons; p++) {
            madeIll[p] = state.madeIllBy(p);
        }
        int best = NONE;
        int least = Integer.bitCount(suspects);
        for (int q = 0; q < land.persons; q++) {
            int part = greatestPart(suspects, q);
            if (part < least) {
                best = q;
                least = part;
            }
        }
        return best;
    }

    public int write(int p, int inside) {
        if (!land.hasPerson(p)) {
            return UNKNOWN;
        }
        if (inside != 0 && inside != 1) {
            return OUTSIDE;
        }
        if (notes.written >= MOST_WRITTEN) {
            return FULL;
        }
        return notes.enter(p, inside);
    }

    public int tear() {
        int had = notes.known + notes.written;
        notes.forget();
        return had;
    }

    public int judge() {
        return notes.firstWrong(state.inside);
    }

    private int greatestPart(int suspects, int q) {
        int with = 0;
        for (int p = 0; p < land.persons; p++) {
            if (((suspects >> p) & 1) == 1 && ((madeIll[p] >> q) & 1) == 1) {
                with++;
            }
        }
        return Math.max(with, Integer.bitCount(suspects) - with);
    }

    // ---- draws, images

    public int seed(int v) {
        if (v < 0) {
            return OUTSIDE;
        }
        int was = drawn;
        drawn = v;
        return was;
    }

    public int keep(int i) {
        if (i < 0 || i >= IMAGES) {
            return UNKNOWN;
        }
        images[i].copyFrom(state);
        keptSeeds[i] = drawn;
        kept[i] = true;
        past.forget();
        return 1;
    }

    public int goBack(int i) {
        if (i < 0 || i >= IMAGES) {
            return UNKNOWN;
        }
        if (!kept[i]) {
            return NOT;
        }
        state.copyFrom(images[i]);
        drawn = keptSeeds[i];
        past.forget();
        return 1;
    }

    /** What a text tells; nothing that is done later changes it. */
    private static final class Common {
        private static final int UNTOLD = -1;

        int gates;
        int persons;
        int insideAtFirst;
        int coldsAtFirst;
        final int[] rust = new int[MOST_GATES];
        final int[] told = new int[MOST_PERSONS * MOST_PERSONS];
        // of each person those whom it likes and who like it, as a set: WOULD is asked most of all
        final int[] fond = new int[MOST_PERSONS];

        void empty() {
            gates = 0;
            persons = 0;
            insideAtFirst = 0;
            coldsAtFirst = 0;
            Arrays.fill(told, UNTOLD);
            Arrays.fill(fond, 0);
        }

        boolean hasGate(int g) {
            return g >= 0 && g < gates;
        }

        boolean hasPerson(int p) {
            return p >= 0 && p < persons;
        }

        boolean hasAll(int set) {
            return (set >>> persons) == 0;
        }

        void addGate(int hours) {
            if (gates < MOST_GATES) {
                rust[gates] = hours;
                gates++;
            }
        }

        void addPerson(int inside, int cold) {
            if (persons < MOST_PERSONS) {
                insideAtFirst |= inside << persons;
                coldsAtFirst |= cold << persons;
                persons++;
            }
        }

        boolean isTold(int p, int q) {
            return hasPerson(p) && hasPerson(q) && told[p * MOST_PERSONS + q] != UNTOLD;
        }

        void addLiking(int p, int q, int much) {
            if (hasPerson(p) && hasPerson(q)) {
                told[p * MOST_PERSONS + q] = much;
                if (much >= 1 && liking(q, p) >= 1) {
                    fond[p] |= 1 << q;
                    fond[q] |= 1 << p;
                }
            }
        }

        int liking(int p, int q) {
            return isTold(p, q) ? told[p * MOST_PERSONS + q] : 0;
        }

        int wouldMeet(int p, int inside) {
            boolean within = ((inside >> p) & 1) == 1;
            return fond[p] & (within ? ~inside : inside);
        }

        int together(int p, int q) {
            return liking(p, q) + liking(q, p);
        }

        boolean likesBest(int p, int q) {
            int much = liking(p, q);
            if (much < 1) {
                return false;
            }
            for (int r = 0; r < persons; r++) {
                if (liking(p, r) > much) {
                    return false;
                }
            }
            return true;
        }
    }

    /** The letters that were fed, and how they are read up to the first fault. */
    private static final class Text {
        static final int FAULTLESS = 0;
        private static final int MISPLACED = 1;
        private static final int OUT_OF_BOUNDS = 2;
        private static final int TOO_MANY = 3;
        private static final int TWICE = 4;
        private static final int MOST_FIGURES = 3;

        final int[] letters = new int[MOST_LETTERS];
        int length;
        int at;
        int numberAt;
        int fault;
        int faultAt;

        int append(int letter) {
            if (length < MOST_LETTERS) {
                letters[length] = letter;
                length++;
            }
            return length;
        }

        int readInto(Common land) {
            at = 0;
            fault = FAULTLESS;
            faultAt = NONE;
            land.empty();
            skipBlanks();
            for (int clause = 0; clause < MOST_LETTERS && fault == FAULTLESS && at < length; clause++) {
                readClause(land);
                skipBlanks();
            }
            return fault;
        }

        // the first blame stays; what is read behind it does nothing
        private void blame(int number, int where) {
            if (fault == FAULTLESS) {
                fault = number;
                faultAt = where;
            }
        }

        private void skipBlanks() {
            while (at < length && letters[at] == ' ') {
                at++;
            }
        }

        private void readClause(Common land) {
            int start = at;
            at++;
            switch (letters[start]) {
                case 'g': readGate(land, start); break;
                case 'p': readPerson(land, start); break;
                case 'l': readLiking(land); break;
                default: blame(MISPLACED, start);
            }
        }

        private void readGate(Common land, int start) {
            if (land.gates >= MOST_GATES) {
                blame(TOO_MANY, start);
            }
            int hours = readNumber(1, MOST_RUST);
            if (readEnd()) {
                land.addGate(hours);
            }
        }

        private void readPerson(Common land, int start) {
            if (land.persons >= MOST_PERSONS) {
                blame(TOO_MANY, start);
            }
            int inside = readNumber(0, 1);
            int cold = readNumber(0, 1);
            if (readEnd()) {
                land.addPerson(inside, cold);
            }
        }

        private void readLiking(Common land) {
            int p = readNumber(0, land.persons - 1);
            int q = readNumber(0, land.persons - 1);
            if (p == q || land.isTold(p, q)) {
                blame(TWICE, numberAt);
            }
            int much = readNumber(0, MOST_LIKED);
            if (readEnd()) {
                land.addLiking(p, q, much);
            }
        }

        private int readNumber(int least, int most) {
            if (fault != FAULTLESS) {
                return 0;
            }
            skipBlanks();
            numberAt = at;
            int value = 0;
            while (at < length && letters[at] >= '0' && letters[at] <= '9') {
                if (at - numberAt < MOST_FIGURES) {
                    value = 10 * value + letters[at] - '0';
                }
                at++;
            }
            if (at == numberAt) {
                blame(MISPLACED, at);
            } else if (at - numberAt > MOST_FIGURES || value < least || value > most) {
                blame(OUT_OF_BOUNDS, numberAt);
            }
            return value;
        }

        private boolean readEnd() {
            if (fault != FAULTLESS) {
                return false;
            }
            skipBlanks();
            if (at >= length || letters[at] != ';') {
                blame(MISPLACED, at);
                return false;
            }
            at++;
            return true;
        }
    }

    /** All of the document's section 2: what is done changes it, what is undone brings it back. */
    private static final class State {
        int hours;
        int meetings;
        int holes;
        int inside;
        int colds;
        int logged;
        final int[] waitsAt = new int[MOST_PERSONS];
        final int[] unused = new int[MOST_GATES];
        // the oldest first
        final int[] log = new int[MOST_LOGGED];

        void begin(Common land) {
            hours = 0;
            meetings = 0;
            holes = 0;
            inside = land.insideAtFirst;
            colds = land.coldsAtFirst;
            logged = 0;
            Arrays.fill(waitsAt, NONE);
            Arrays.fill(unused, 0);
        }

        void copyFrom(State other) {
            hours = other.hours;
            meetings = other.meetings;
            holes = other.holes;
            inside = other.inside;
            colds = other.colds;
            logged = other.logged;
            System.arraycopy(other.waitsAt, 0, waitsAt, 0, MOST_PERSONS);
            System.arraycopy(other.unused, 0, unused, 0, MOST_GATES);
            System.arraycopy(other.log, 0, log, 0, MOST_LOGGED);
        }

        boolean isRusted(Common land, int g) {
            return unused[g] >= land.rust[g];
        }

        int rusted(Common land) {
            int set = 0;
            for (int g = 0; g < land.gates; g++) {
                if (isRusted(land, g)) {
                    set |= 1 << g;
                }
            }
            return set;
        }

        int waitingAt(Common land, int g) {
            int set = 0;
            for (int p = 0; p < land.persons; p++) {
                if (waitsAt[p] == g) {
                    set |= 1 << p;
                }
            }
            return set;
        }

        int waiting(Common land) {
            int set = 0;
            for (int p = 0; p < land.persons; p++) {
                if (waitsAt[p] != NONE) {
                    set |= 1 << p;
                }
            }
            return set;
        }

        void passHour(Common land) {
            for (int g = 0; g < land.gates; g++) {
                if (!isRusted(land, g)) {
                    unused[g] = meetAt(land, g) ? 0 : unused[g] + 1;
                }
            }
            hours++;
        }

        private boolean meetAt(Common land, int g) {
            int there = waitingAt(land, g);
            int lesser = NONE;
            int other = NONE;
            int most = 0;
            for (int p = 0; p < land.persons; p++) {
                int others = ((there >> p) & 1) == 1 ? there & land.wouldMeet(p, inside) : 0;
                for (int q = p + 1; q < land.persons; q++) {
                    if (((others >> q) & 1) == 1 && land.together(p, q) > most) {
                        lesser = p;
                        other = q;
                        most = land.together(p, q);
                    }
                }
            }
            if (lesser == NONE || other == NONE) {
                return false;
            }
            meet(lesser, other);
            return true;
        }

        private void meet(int p, int q) {
            int both = (1 << p) | (1 << q);
            inside ^= both;
            if ((colds & both) != 0) {
                colds |= both;
            }
            waitsAt[p] = NONE;
            waitsAt[q] = NONE;
            meetings++;
            if (logged >= MOST_LOGGED) {
                System.arraycopy(log, 1, log, 0, MOST_LOGGED - 1);
                logged = MOST_LOGGED - 1;
            }
            log[logged] = 10 * p + q;
            logged++;
        }

        int madeIllBy(int p) {
            int set = 1 << p;
            for (int i = 0; i < logged; i++) {
                int both = (1 << (log[i] / 10)) | (1 << (log[i] % 10));
                if ((set & both) != 0) {
                    set |= both;
                }
            }
            return set;
        }
    }

    /** What can be undone: a ring of states, the oldest lost first. */
    private static final class Past {
        final State[] states;
        int next;
        int count;

        Past() {
            states = new State[MOST_UNDONE];
            for (int i = 0; i < MOST_UNDONE; i++) {
                states[i] = new State();
            }
        }

        void remember(State now) {
            states[next].copyFrom(now);
            next = next + 1 < MOST_UNDONE ? next + 1 : 0;
            count = Math.min(count + 1, MOST_UNDONE);
        }

        void restore(State now) {
            if (count > 0) {
                next = next > 0 ? next - 1 : MOST_UNDONE - 1;
                count--;
                now.copyFrom(states[next]);
            }
        }

        void forget() {
            count = 0;
        }
    }

    /** Who is known to be ill or not, and THE BOOK. */
    private static final class Notes {
        int known;
        int ill;
        int sound;
        int written;
        final int[] who = new int[MOST_WRITTEN];
        final int[] where = new int[MOST_WRITTEN];

        void forget() {
            known = 0;
            ill = 0;
            sound = 0;
            written = 0;
        }

        int learn(int p, boolean is) {
            if (is) {
                ill |= 1 << p;
            } else {
                sound |= 1 << p;
            }
            known++;
            return known;
        }

        boolean allows(int madeIll) {
            return (madeIll & ill) == ill && (madeIll & sound) == 0;
        }

        int enter(int p, int inside) {
            if (written < MOST_WRITTEN) {
                who[written] = p;
                where[written] = inside;
                written++;
            }
            return written;
        }

        int firstWrong(int inside) {
            for (int i = 0; i < written; i++) {
                if (((inside >> who[i]) & 1) != where[i]) {
                    return i;
                }
            }
            return NONE;
        }
    }

    /** AT ONCE: tries all pairings, person by person, the lesser other one first and none last. */
    private static final class Pairing {
        final int[] other = new int[MOST_PERSONS];
        final int[] trial = new int[MOST_PERSONS];
        int pairs;
        int liking;
        private int inside;
        private int most;

        void find(Common land, int nowInside, int openGates) {
            inside = nowInside;
            most = openGates;
            pairs = NONE;
            liking = NONE;
            Arrays.fill(trial, NONE);
            pairFrom(land, 0, 0, 0);
        }

        private void pairFrom(Common land, int p, int made, int liked) {
            if (p >= land.persons) {
                takeIfBetter(made, liked);
                return;
            }
            int others = trial[p] == NONE && made < most ? land.wouldMeet(p, inside) : 0;
            for (int q = p + 1; q < land.persons; q++) {
                if (((others >> q) & 1) == 1 && trial[q] == NONE) {
                    trial[p] = q;
                    trial[q] = p;
                    pairFrom(land, p + 1, made + 1, liked + land.together(p, q));
                    trial[p] = NONE;
                    trial[q] = NONE;
                }
            }
            pairFrom(land, p + 1, made, liked);
        }

        // pairings come in the document's order, so of like ones the earlier stays
        private void takeIfBetter(int made, int liked) {
            if (made > pairs || (made == pairs && liked > liking)) {
                pairs = made;
                liking = liked;
                System.arraycopy(trial, 0, other, 0, MOST_PERSONS);
            }
        }
    }

    /** SIDES: hour by hour all the sets of persons inside that can be reached. */
    private static final class Crossing {
        private static final int SETS = 1 << MOST_PERSONS;

        // of each set of persons inside: behind how many hours it can first be so
        final int[] behind = new int[SETS];
        private boolean found;

        int fewestHours(Common land, int inside, int openGates, int set, int wanted) {
            Arrays.fill(behind, NONE);
            if (inside < 0 || inside >= SETS) {
                return NONE;
            }
            behind[inside] = 0;
            found = true;
            for (int hours = 0; hours <= MOST_TRIED && found; hours++) {
                if (isThere(hours, set, wanted)) {
                    return hours;
                }
                found = false;
                for (int from = 0; from < SETS; from++) {
                    if (behind[from] == hours) {
                        cross(land, from, from, 0, openGates);
                    }
                }
            }
            return NONE;
        }

        private boolean isThere(int hours, int set, int wanted) {
            for (int now = 0; now < SETS; now++) {
                if (behind[now] == hours && ((now ^ wanted) & set) == 0) {
                    return true;
                }
            }
            return false;
        }

        // who has met in this hour is on another side in 'now' than in 'from'
        private void cross(Common land, int from, int now, int p, int left) {
            if (p >= land.persons || left <= 0) {
                reach(from, now);
                return;
            }
            int met = from ^ now;
            int others = ((met >> p) & 1) == 0 ? land.wouldMeet(p, from) & ~met : 0;
            for (int q = p + 1; q < land.persons; q++) {
                if (((others >> q) & 1) == 1) {
                    cross(land, from, now ^ (1 << p) ^ (1 << q), p + 1, left - 1);
                }
            }
            cross(land, from, now, p + 1, left);
        }

        private void reach(int from, int now) {
            if (now >= 0 && now < SETS && behind[now] == NONE) {
                behind[now] = behind[from] + 1;
                found = true;
            }
        }
    }
}

/** Keys that only rise: piles of entries, roads between towns, orders in a text, undo and a snapshot. */
public final class RisingPiles {
    public static final int UNKNOWN = -1;
    public static final int BAD_VALUE = -2;
    public static final int FULL = -3;
    public static final int NOT_POSSIBLE = -4;
    public static final int NONE = -5;

    private static final int MOST_KEY = 65535;
    private static final int MOST_VALUE = 999;
    private static final int MOST_LENGTH = 999;
    private static final int MOST_NUMBER = 999;
    private static final int KEY_BITS = 16;
    private static final int PILES = 17;
    private static final int MOST_IN_PILES = 40;
    private static final int MOST_COMING = 1000;
    private static final int LATEST = 8;
    private static final int TOWNS = 12;
    private static final int MOST_ROADS = 40;
    private static final int TEXT_ROOM = 60;
    // An order takes one character at least, and a comma stands between two.
    private static final int MOST_ORDERS = 30;
    private static final int MOST_STATES = 4;

    private static final char COME_IN = '+';
    private static final char COME_OUT = '-';
    private static final char TAKE_BACK = 'x';
    private static final char MAKE_LESS = '<';

    private static final int NOWHERE = -1;
    private static final int NO_SIGN = -1;
    private static final int NO_NUMBER = -1;
    private static final int NO_FAULT = -1;
    private static final int FAULT_BASE = -100;
    private static final int NO_REFUSAL = 0;

    private final State now = new State();
    private final State before = new State();
    private final State snapshot = new State();
    private final History history = new History();
    private final Text text = new Text();
    private final Orders orders = new Orders();
    private final Search ways = new Search();
    private boolean snapshotTaken;
    private int refusedOrder;
    private int refusedError = NO_REFUSAL;

    public RisingPiles() {
    }

    // ---- entries

    public int comeIn(int key, int value) {
        before.copyFrom(now);
        return recorded(now.bringIn(key, value));
    }

    public int comeOut() {
        before.copyFrom(now);
        return recorded(now.letOut());
    }

    public int comeOutUpTo(int key) {
        before.copyFrom(now);
        return recorded(now.letOutUpTo(key));
    }

    public int less(int entry, int key) {
        before.copyFrom(now);
        return recorded(now.makeLess(entry, key));
    }

    public int takeBack(int entry) {
        before.copyFrom(now);
        return recorded(now.giveBack(entry));
    }

    // ---- roads

    public int road(int from, int to, int length) {
        before.copyFrom(now);
        return recorded(now.roads.lay(from, to, length));
    }

    public int unroad(int from, int to) {
        before.copyFrom(now);
        return recorded(now.roads.remove(from, to));
    }

    // ---- texts

    public int type(char character) {
        return text.append(character);
    }

    public int clearText() {
        return text.clear();
    }

    public int perform() {
        int fault = orders.readFrom(text);
        if (fault != NO_FAULT) {
            return FAULT_BASE - fault;
        }
        before.copyFrom(now);
        for (int i = 0; i < orders.size(); i++) {
            int answer = now.carryOut(orders.kindAt(i), orders.firstAt(i), orders.secondAt(i));
            if (isError(answer)) {
                refusedOrder = i;
                refusedError = answer;
                now.copyFrom(before);
                return NOT_POSSIBLE;
            }
        }
        return recorded(orders.size());
    }

    public int refusal(int what) {
        if (what < 0 || what > 1) {
            return BAD_VALUE;
        }
        if (refusedError == NO_REFUSAL) {
            return NONE;
        }
        return what == 0 ? refusedOrder : refusedError;
    }

    // ---- history

    public int undo() {
        return history.giveLatestTo(now);
    }

    public int keep() {
        snapshot.copyFrom(now);
        snapshotTaken = true;
        return now.piles.size();
    }

    public int restore() {
        if (!snapshotTaken) {
            return NONE;
        }
        before.copyFrom(now);
        now.copyFrom(snapshot);
        return recorded(now.piles.size());
    }

    // ---- what is told

    public int entry(int entry, int what) {
        int at = now.piles.indexOf(entry);
        if (at == NOWHERE) {
            return UNKNOWN;
        }
        switch (what) {
            case 0: return now.piles.keyAt(at);
            case 1: return now.piles.valueAt(at);
            case 2: return now.piles.pileAt(at);
            case 3: return now.piles.placeAt(at);
            case 4: return now.piles.movesAt(at);
            default: return BAD_VALUE;
        }
    }

    public int pile(int pile, int what) {
        if (pile < 0 || pile >= PILES) {
            return UNKNOWN;
        }
        switch (what) {
            case 0: return now.piles.sizeOf(pile);
            case 1: return now.piles.leastKeyOf(pile);
            case 2: return now.piles.greatestKeyOf(pile);
            case 3: return now.piles.frontOf(pile);
            default: return BAD_VALUE;
        }
    }

    public int next(int what) {
        if (what < 0 || what > 2) {
            return BAD_VALUE;
        }
        int at = now.piles.indexOfNext();
        if (at == NOWHERE) {
            return NONE;
        }
        switch (what) {
            case 0: return now.piles.numberAt(at);
            case 1: return now.piles.keyAt(at);
            default: return now.piles.movesToReach(at);
        }
    }

    public int ranked(int rank) {
        if (rank < 0) {
            return BAD_VALUE;
        }
        int at = now.piles.indexOfRank(rank);
        return at == NOWHERE ? NONE : now.piles.numberAt(at);
    }

    public int movesLeft() {
        return now.piles.sumOfPiles();
    }

    public int out(int back, int what) {
        return now.latest.tell(back, what);
    }

    public int roadOf(int from, int to) {
        if (!isTown(from) || !isTown(to)) {
            return UNKNOWN;
        }
        return now.roads.lengthOf(from, to);
    }

    public int distance(int from, int to) {
        if (!isTown(from) || !isTown(to)) {
            return UNKNOWN;
        }
        ways.findFrom(from, now.roads);
        return ways.distanceOf(to);
    }

    public int search(int from, int what) {
        if (!isTown(from)) {
            return UNKNOWN;
        }
        ways.findFrom(from, now.roads);
        switch (what) {
            case 0: return ways.townsDone();
            case 1: return ways.cameIn();
            case 2: return ways.moves();
            case 3: return ways.greatestDistance();
            default: return BAD_VALUE;
        }
    }

    public int count(int what) {
        switch (what) {
            case 0: return now.piles.size();
            case 1: return now.cameIn;
            case 2: return now.cameOut;
            case 3: return now.piles.floor();
            case 4: return now.piles.allMoves();
            case 5: return now.piles.pilesInUse();
            case 6: return now.roads.size();
            case 7: return now.takenBack;
            case 8: return history.size();
            case 9: return text.size();
            default: return BAD_VALUE;
        }
    }

    private int recorded(int answer) {
        if (answer >= 0) {
            history.put(before);
        }
        return answer;
    }

    private static boolean isError(int answer) {
        return answer < 0 && answer != NONE;
    }

    private static boolean isKey(int key) {
        return key >= 0 && key <= MOST_KEY;
    }

    private static boolean isTown(int town) {
        return town >= 0 && town < TOWNS;
    }

    private static void copyRow(int[] source, int[] target) {
        System.arraycopy(source, 0, target, 0, Math.min(source.length, target.length));
    }

    /**
     * All piles in one row: the row of a pile is what the common row has of that pile, in the same order.
     * This stays true when a pile is emptied although no entry changes its place: the lower piles are
     * empty then, and the entries would come to them in the order in which they stand already.
     */
    private static final class Piles {
        private final int[] numbers = new int[MOST_IN_PILES];
        private final int[] keys = new int[MOST_IN_PILES];
        private final int[] values = new int[MOST_IN_PILES];
        private final int[] moves = new int[MOST_IN_PILES];
        private final int[] piles = new int[MOST_IN_PILES];
        private int held;
        private int floor;
        private int allMoves;

        Piles() {
        }

        void copyFrom(Piles other) {
            if (other == null) {
                return;
            }
            copyRow(other.numbers, numbers);
            copyRow(other.keys, keys);
            copyRow(other.values, values);
            copyRow(other.moves, moves);
            copyRow(other.piles, piles);
            held = other.held;
            floor = other.floor;
            allMoves = other.allMoves;
        }

        void clear() {
            held = 0;
            floor = 0;
            allMoves = 0;
        }

        int size() {
            return held;
        }

        int floor() {
            return floor;
        }

        int allMoves() {
            return allMoves;
        }

        boolean isFull() {
            return held >= MOST_IN_PILES;
        }

        private boolean has(int at) {
            return at >= 0 && at < held && at < MOST_IN_PILES;
        }

        int numberAt(int at) {
            return has(at) ? numbers[at] : NONE;
        }

        int keyAt(int at) {
            return has(at) ? keys[at] : NONE;
        }

        int valueAt(int at) {
            return has(at) ? values[at] : NONE;
        }

        int movesAt(int at) {
            return has(at) ? moves[at] : NONE;
        }

        int pileAt(int at) {
            return has(at) ? piles[at] : NONE;
        }

        int placeAt(int at) {
            int place = 0;
            for (int i = 0; i < at && i < held; i++) {
                if (pileAt(i) == pileAt(at)) {
                    place++;
                }
            }
            return place;
        }

        int indexOf(int number) {
            for (int i = 0; i < held; i++) {
                if (numberAt(i) == number) {
                    return i;
                }
            }
            return NOWHERE;
        }

        void append(int number, int key, int value, int moved) {
            if (isFull() || held < 0) {
                return;
            }
            numbers[held] = number;
            keys[held] = key;
            values[held] = value;
            moves[held] = moved;
            piles[held] = pileFor(key);
            held++;
        }

        void removeAt(int at) {
            if (!has(at)) {
                return;
            }
            int behind = held - at - 1;
            System.arraycopy(numbers, at + 1, numbers, at, behind);
            System.arraycopy(keys, at + 1, keys, at, behind);
            System.arraycopy(values, at + 1, values, at, behind);
            System.arraycopy(moves, at + 1, moves, at, behind);
            System.arraycopy(piles, at + 1, piles, at, behind);
            held--;
        }

        int pileFor(int key) {
            int unlike = key ^ floor;
            int pile = 0;
            for (int bit = 0; bit < KEY_BITS; bit++) {
                if (((unlike >> bit) & 1) == 1) {
                    pile = bit + 1;
                }
            }
            return pile;
        }

        /** Answers the pile to which the entry belongs then. */
        int lessenAt(int at, int key) {
            if (!has(at)) {
                return NONE;
            }
            int pile = pileFor(key);
            if (pile == piles[at]) {
                keys[at] = key;
                return pile;
            }
            int number = numbers[at];
            int value = values[at];
            int moved = moves[at] + 1;
            removeAt(at);
            append(number, key, value, moved);
            allMoves++;
            return pile;
        }

        /**
         * A lower pile has lower keys, and like keys are in one pile, in the order in which they come out:
         * so the first one of the least keys is next, and no pile need be looked at.
         */
        int indexOfNext() {
            int best = NOWHERE;
            for (int i = 0; i < held; i++) {
                if (best == NOWHERE || keyAt(i) < keyAt(best)) {
                    best = i;
                }
            }
            return best;
        }

        int indexOfRank(int rank) {
            for (int i = 0; i < held && rank < held; i++) {
                if (rankAt(i) == rank) {
                    return i;
                }
            }
            return NOWHERE;
        }

        private int rankAt(int at) {
            int key = keyAt(at);
            int earlier = 0;
            for (int i = 0; i < held; i++) {
                int other = keyAt(i);
                if (other < key || (other == key && i < at)) {
                    earlier++;
                }
            }
            return earlier;
        }

        int movesToReach(int at) {
            int pile = pileAt(at);
            return pile == 0 ? 0 : sizeOf(pile);
        }

        /** Brings the next entry to the pile 0, which may cost its pile. */
        void reach(int at) {
            int emptied = pileAt(at);
            if (!has(at) || emptied == 0) {
                return;
            }
            floor = keys[at];
            for (int i = 0; i < held && i < MOST_IN_PILES; i++) {
                if (piles[i] == emptied) {
                    piles[i] = pileFor(keys[i]);
                    moves[i]++;
                    allMoves++;
                }
            }
        }

        int sizeOf(int pile) {
            int found = 0;
            for (int i = 0; i < held; i++) {
                if (pileAt(i) == pile) {
                    found++;
                }
            }
            return found;
        }

        int leastKeyOf(int pile) {
            int least = NONE;
            for (int i = 0; i < held; i++) {
                if (pileAt(i) == pile && (least == NONE || keyAt(i) < least)) {
                    least = keyAt(i);
                }
            }
            return least;
        }

        int greatestKeyOf(int pile) {
            int greatest = NONE;
            for (int i = 0; i < held; i++) {
                if (pileAt(i) == pile) {
                    greatest = Math.max(greatest, keyAt(i));
                }
            }
            return greatest;
        }

        int frontOf(int pile) {
            for (int i = 0; i < held; i++) {
                if (pileAt(i) == pile) {
                    return numberAt(i);
                }
            }
            return NONE;
        }

        int sumOfPiles() {
            int sum = 0;
            for (int i = 0; i < held; i++) {
                sum += pileAt(i);
            }
            return sum;
        }

        int pilesInUse() {
            int used = 0;
            for (int pile = 0; pile < PILES; pile++) {
                if (frontOf(pile) != NONE) {
                    used++;
                }
            }
            return used;
        }
    }

    /** The entries that came out the latest, the latest one first. */
    private static final class Latest {
        private final int[] numbers = new int[LATEST];
        private final int[] keys = new int[LATEST];
        private final int[] values = new int[LATEST];
        private final int[] moves = new int[LATEST];
        private int held;

        Latest() {
        }

        void copyFrom(Latest other) {
            if (other == null) {
                return;
            }
            copyRow(other.numbers, numbers);
            copyRow(other.keys, keys);
            copyRow(other.values, values);
            copyRow(other.moves, moves);
            held = other.held;
        }

        void put(int number, int key, int value, int moved) {
            putFirst(numbers, number);
            putFirst(keys, key);
            putFirst(values, value);
            putFirst(moves, moved);
            held = Math.min(held + 1, LATEST);
        }

        private static void putFirst(int[] row, int number) {
            if (row.length == 0) {
                return;
            }
            System.arraycopy(row, 0, row, 1, row.length - 1);
            row[0] = number;
        }

        int tell(int back, int what) {
            if (back < 0 || what < 0 || what > 3) {
                return BAD_VALUE;
            }
            if (back >= held || back >= LATEST) {
                return NONE;
            }
            switch (what) {
                case 0: return numbers[back];
                case 1: return keys[back];
                case 2: return values[back];
                default: return moves[back];
            }
        }
    }

    private static final class Roads {
        // NONE where there is no road
        private final int[] lengths = new int[TOWNS * TOWNS];
        private int laid;

        Roads() {
            for (int i = 0; i < lengths.length; i++) {
                lengths[i] = NONE;
            }
        }

        void copyFrom(Roads other) {
            if (other == null) {
                return;
            }
            copyRow(other.lengths, lengths);
            laid = other.laid;
        }

        int size() {
            return laid;
        }

        int lengthOf(int from, int to) {
            return isTown(from) && isTown(to) ? lengths[from * TOWNS + to] : NONE;
        }

        private void setLength(int from, int to, int length) {
            if (isTown(from) && isTown(to)) {
                lengths[from * TOWNS + to] = length;
            }
        }

        int lay(int from, int to, int length) {
            if (!isTown(from) || !isTown(to)) {
                return UNKNOWN;
            }
            if (length < 0 || length > MOST_LENGTH || from == to) {
                return BAD_VALUE;
            }
            int former = lengthOf(from, to);
            if (former == length) {
                return NONE;
            }
            if (former == NONE && laid >= MOST_ROADS) {
                return FULL;
            }
            setLength(from, to, length);
            if (former == NONE) {
                laid++;
            }
            return laid;
        }

        int remove(int from, int to) {
            int length = lengthOf(from, to);
            if (length == NONE) {
                return UNKNOWN;
            }
            setLength(from, to, NONE);
            laid--;
            return length;
        }
    }

    /** All that undo and the snapshot bring back. */
    private static final class State {
        final Piles piles = new Piles();
        final Latest latest = new Latest();
        final Roads roads = new Roads();
        int cameIn;
        int cameOut;
        int takenBack;

        State() {
        }

        void copyFrom(State other) {
            if (other == null) {
                return;
            }
            piles.copyFrom(other.piles);
            latest.copyFrom(other.latest);
            roads.copyFrom(other.roads);
            cameIn = other.cameIn;
            cameOut = other.cameOut;
            takenBack = other.takenBack;
        }

        int bringIn(int key, int value) {
            if (!isKey(key) || value < 0 || value > MOST_VALUE) {
                return BAD_VALUE;
            }
            if (key < piles.floor()) {
                return NOT_POSSIBLE;
            }
            if (piles.isFull() || cameIn >= MOST_COMING) {
                return FULL;
            }
            int number = cameIn;
            piles.append(number, key, value, 0);
            cameIn++;
            return number;
        }

        int letOut() {
            int at = piles.indexOfNext();
            if (at == NOWHERE) {
                return NONE;
            }
            piles.reach(at);
            int number = piles.numberAt(at);
            latest.put(number, piles.keyAt(at), piles.valueAt(at), piles.movesAt(at));
            piles.removeAt(at);
            cameOut++;
            return number;
        }

        int letOutUpTo(int key) {
            if (!isKey(key)) {
                return BAD_VALUE;
            }
            int outNow = 0;
            for (int i = 0; i < MOST_IN_PILES; i++) {
                int at = piles.indexOfNext();
                if (at == NOWHERE || piles.keyAt(at) > key) {
                    break;
                }
                letOut();
                outNow++;
            }
            return outNow == 0 ? NONE : outNow;
        }

        int makeLess(int entry, int key) {
            int at = piles.indexOf(entry);
            if (at == NOWHERE) {
                return UNKNOWN;
            }
            if (!isKey(key)) {
                return BAD_VALUE;
            }
            int former = piles.keyAt(at);
            if (key < piles.floor() || key > former) {
                return NOT_POSSIBLE;
            }
            return key == former ? NONE : piles.lessenAt(at, key);
        }

        int giveBack(int entry) {
            int at = piles.indexOf(entry);
            if (at == NOWHERE) {
                return UNKNOWN;
            }
            int key = piles.keyAt(at);
            piles.removeAt(at);
            takenBack++;
            return key;
        }

        int carryOut(int kind, int first, int second) {
            switch (kind) {
                case COME_IN: return bringIn(first, second);
                case COME_OUT: return letOut();
                case TAKE_BACK: return giveBack(first);
                case MAKE_LESS: return makeLess(first, second);
                default: return NONE;
            }
        }
    }

    /** The states that undo can restore, the oldest one first; the objects are used again and again. */
    private static final class History {
        private final State[] states = new State[MOST_STATES];
        private int held;

        History() {
            for (int i = 0; i < states.length; i++) {
                states[i] = new State();
            }
        }

        int size() {
            return held;
        }

        private State stateAt(int index) {
            return index >= 0 && index < states.length ? states[index] : null;
        }

        void put(State state) {
            if (held >= MOST_STATES) {
                dropOldest();
            }
            State free = stateAt(held);
            if (free != null) {
                free.copyFrom(state);
                held++;
            }
        }

        private void dropOldest() {
            State oldest = stateAt(0);
            for (int i = 0; i + 1 < states.length; i++) {
                states[i] = states[i + 1];
            }
            if (states.length > 0) {
                states[states.length - 1] = oldest;
            }
            held--;
        }

        /** Answers how many states are left, or NONE. */
        int giveLatestTo(State target) {
            State latest = stateAt(held - 1);
            if (latest == null || target == null) {
                return NONE;
            }
            target.copyFrom(latest);
            held--;
            return held;
        }
    }

    private static final class Text {
        private final char[] signs = new char[TEXT_ROOM];
        private int length;

        Text() {
        }

        int size() {
            return length;
        }

        int append(char sign) {
            if (length < 0 || length >= TEXT_ROOM) {
                return FULL;
            }
            signs[length] = sign;
            length++;
            return length;
        }

        int clear() {
            int former = length;
            length = 0;
            return former;
        }

        int signAt(int place) {
            return place >= 0 && place < length && place < TEXT_ROOM ? signs[place] : NO_SIGN;
        }
    }

    /** The orders that a text names; while it is read, place is the index of the first sign not yet taken. */
    private static final class Orders {
        private final char[] kinds = new char[MOST_ORDERS];
        private final int[] firsts = new int[MOST_ORDERS];
        private final int[] seconds = new int[MOST_ORDERS];
        private int held;
        private int place;

        Orders() {
        }

        int size() {
            return held;
        }

        private boolean has(int index) {
            return index >= 0 && index < held && index < MOST_ORDERS;
        }

        int kindAt(int index) {
            return has(index) ? kinds[index] : NO_SIGN;
        }

        int firstAt(int index) {
            return has(index) ? firsts[index] : NO_NUMBER;
        }

        int secondAt(int index) {
            return has(index) ? seconds[index] : NO_NUMBER;
        }

        /** Answers the fault of the text, or NO_FAULT. */
        int readFrom(Text text) {
            held = 0;
            place = 0;
            for (int i = 0; text != null && i < MOST_ORDERS; i++) {
                if (!readOrder(text)) {
                    return place;
                }
                if (text.signAt(place) == NO_SIGN) {
                    return NO_FAULT;
                }
                if (text.signAt(place) != ',') {
                    return place;
                }
                place++;
            }
            // So many orders with a comma behind each fill the text: it ends too early.
            return place;
        }

        private boolean readOrder(Text text) {
            int kind = text.signAt(place);
            switch (kind) {
                case COME_IN: return readComeIn(text);
                case COME_OUT: return readComeOut();
                case TAKE_BACK: return readTakeBack(text);
                case MAKE_LESS: return readMakeLess(text);
                default: return false;
            }
        }

        private boolean readComeIn(Text text) {
            place++;
            int key = readNumber(text, MOST_KEY);
            if (key == NO_NUMBER) {
                return false;
            }
            int value = 0;
            if (text.signAt(place) == ':') {
                place++;
                value = readNumber(text, MOST_VALUE);
            }
            return value != NO_NUMBER && put(COME_IN, key, value);
        }

        private boolean readComeOut() {
            place++;
            return put(COME_OUT, 0, 0);
        }

        private boolean readTakeBack(Text text) {
            place++;
            int entry = readNumber(text, MOST_NUMBER);
            return entry != NO_NUMBER && put(TAKE_BACK, entry, 0);
        }

        private boolean readMakeLess(Text text) {
            place++;
            int entry = readNumber(text, MOST_NUMBER);
            if (entry == NO_NUMBER || text.signAt(place) != '=') {
                return false;
            }
            place++;
            int key = readNumber(text, MOST_KEY);
            return key != NO_NUMBER && put(MAKE_LESS, entry, key);
        }

        /** Takes digits as long as they are allowed. */
        private int readNumber(Text text, int most) {
            int number = NO_NUMBER;
            for (int i = 0; i < TEXT_ROOM; i++) {
                int longer = withDigit(number, text.signAt(place));
                if (longer == NO_NUMBER || longer > most) {
                    break;
                }
                number = longer;
                place++;
            }
            return number;
        }

        private static int withDigit(int number, int sign) {
            if (sign < '0' || sign > '9' || number == 0) {
                return NO_NUMBER;
            }
            int digit = sign - '0';
            return number == NO_NUMBER ? digit : number * 10 + digit;
        }

        private boolean put(char kind, int first, int second) {
            if (held < 0 || held >= MOST_ORDERS) {
                return false;
            }
            kinds[held] = kind;
            firsts[held] = first;
            seconds[held] = second;
            held++;
            return true;
        }
    }

    /** The shortest ways from a town; its piles are made once and used for every search. */
    private static final class Search {
        private final Piles piles = new Piles();
        // NONE for a town that is not done
        private final int[] distances = new int[TOWNS];
        private int townsDone;
        private int cameIn;
        private int greatest;

        Search() {
        }

        int townsDone() {
            return townsDone;
        }

        int cameIn() {
            return cameIn;
        }

        int moves() {
            return piles.allMoves();
        }

        int greatestDistance() {
            return greatest;
        }

        int distanceOf(int town) {
            return isTown(town) ? distances[town] : NONE;
        }

        void findFrom(int start, Roads roads) {
            clear();
            bringIn(start, 0);
            // A town is done once, so no road brings in more than one entry.
            for (int i = 0; i <= MOST_ROADS && piles.size() > 0; i++) {
                letOut(roads);
            }
        }

        private void clear() {
            piles.clear();
            townsDone = 0;
            cameIn = 0;
            greatest = 0;
            for (int town = 0; town < TOWNS; town++) {
                distances[town] = NONE;
            }
        }

        private void bringIn(int town, int key) {
            piles.append(cameIn, key, town, 0);
            cameIn++;
        }

        private void letOut(Roads roads) {
            int at = piles.indexOfNext();
            piles.reach(at);
            int key = piles.keyAt(at);
            int town = piles.valueAt(at);
            piles.removeAt(at);
            if (isTown(town) && distances[town] == NONE) {
                distances[town] = key;
                townsDone++;
                greatest = Math.max(greatest, key);
                followRoads(town, key, roads);
            }
        }

        private void followRoads(int from, int key, Roads roads) {
            for (int to = 0; roads != null && to < TOWNS; to++) {
                int length = roads.lengthOf(from, to);
                if (length != NONE && distanceOf(to) == NONE) {
                    bringIn(to, key + length);
                }
            }
        }
    }
}

import java.util.ArrayList;
import java.util.Arrays;
import java.util.List;
import java.util.regex.Matcher;
import java.util.regex.Pattern;

/**
 * The document told a second time, by other means, for the random runs: each pile has a row of its own, what comes
 * out is found by emptying the piles of a copy, faults by asking a pattern how far a text can still become a sound one.
 */
final class Model {
    private static final int UNKNOWN = -1;
    private static final int BAD_VALUE = -2;
    private static final int FULL = -3;
    private static final int NOT_POSSIBLE = -4;
    private static final int NONE = -5;

    private static final String KEY = "(?:0|[1-9]\\d{0,3}|[1-5]\\d{4}|6[0-4]\\d{3}|65[0-4]\\d\\d|655[0-2]\\d|6553[0-5])";
    private static final String SMALL = "(?:0|[1-9]\\d{0,2})";
    private static final String ORDER = "(?:\\+" + KEY + "(?::" + SMALL + ")?|-|x" + SMALL + "|<" + SMALL + "=" + KEY + ")";
    private static final Pattern ORDERS = Pattern.compile(ORDER + "(?:," + ORDER + ")*");

    private static final class Entry {
        final int number;
        final int value;
        int key;
        int moves;

        Entry(int number, int key, int value, int moves) {
            this.number = number;
            this.key = key;
            this.value = value;
            this.moves = moves;
        }

        Entry copy() {
            return new Entry(number, key, value, moves);
        }
    }

    private static final class Heap {
        final List<List<Entry>> rows = new ArrayList<>();
        int floor;
        int moves;

        Heap() {
            for (int i = 0; i < 17; i++) {
                rows.add(new ArrayList<>());
            }
        }

        Heap copy() {
            Heap copy = new Heap();
            copy.floor = floor;
            copy.moves = moves;
            for (int i = 0; i < 17; i++) {
                for (Entry entry : rows.get(i)) {
                    copy.rows.get(i).add(entry.copy());
                }
            }
            return copy;
        }

        int pileFor(int key) {
            return key == floor ? 0 : 32 - Integer.numberOfLeadingZeros(key ^ floor);
        }

        void arrive(Entry entry) {
            rows.get(pileFor(entry.key)).add(entry);
        }

        void move(Entry entry) {
            entry.moves++;
            moves++;
            arrive(entry);
        }

        int size() {
            return rows.stream().mapToInt(List::size).sum();
        }

        int lowest() {
            for (int i = 0; i < 17; i++) {
                if (!rows.get(i).isEmpty()) {
                    return i;
                }
            }
            return -1;
        }

        int pileOf(int number) {
            for (int i = 0; i < 17; i++) {
                for (Entry entry : rows.get(i)) {
                    if (entry.number == number) {
                        return i;
                    }
                }
            }
            return -1;
        }

        Entry find(int number) {
            int pile = pileOf(number);
            return pile < 0 ? null : rows.get(pile).stream().filter(e -> e.number == number).findFirst().orElse(null);
        }

        Entry letOut() {
            int lowest = lowest();
            if (lowest < 0) {
                return null;
            }
            if (lowest > 0) {
                List<Entry> emptied = new ArrayList<>(rows.get(lowest));
                rows.get(lowest).clear();
                floor = emptied.stream().mapToInt(e -> e.key).min().getAsInt();
                emptied.forEach(this::move);
            }
            return rows.get(0).remove(0);
        }
    }

    private static final class State {
        Heap heap = new Heap();
        List<Entry> out = new ArrayList<>();
        int[][] roads = new int[12][12];
        int cameIn;
        int takenBack;

        State() {
            for (int[] row : roads) {
                Arrays.fill(row, NONE);
            }
        }

        State copy() {
            State copy = new State();
            copy.heap = heap.copy();
            copy.out = new ArrayList<>(out);
            for (int i = 0; i < 12; i++) {
                copy.roads[i] = roads[i].clone();
            }
            copy.cameIn = cameIn;
            copy.takenBack = takenBack;
            return copy;
        }

        int roadsLaid() {
            return (int) Arrays.stream(roads).flatMapToInt(Arrays::stream).filter(length -> length != NONE).count();
        }
    }

    private State state = new State();
    private State snapshot;
    private final List<State> history = new ArrayList<>();
    private String text = "";
    private int refusedOrder;
    private int refusedError;

    private static boolean within(int number, int most) {
        return number >= 0 && number <= most;
    }

    private int acted(State before, int answer) {
        if (answer >= 0) {
            history.add(before);
            if (history.size() > 4) {
                history.remove(0);
            }
        }
        return answer;
    }

    private int bringIn(int key, int value) {
        if (!within(key, 65535) || !within(value, 999)) {
            return BAD_VALUE;
        }
        if (key < state.heap.floor) {
            return NOT_POSSIBLE;
        }
        if (state.heap.size() == 40 || state.cameIn == 1000) {
            return FULL;
        }
        state.heap.arrive(new Entry(state.cameIn, key, value, 0));
        return state.cameIn++;
    }

    private int letOut() {
        Entry entry = state.heap.letOut();
        if (entry == null) {
            return NONE;
        }
        state.out.add(0, entry);
        return entry.number;
    }

    private int makeLess(int number, int key) {
        Heap heap = state.heap;
        Entry entry = heap.find(number);
        if (entry == null) {
            return UNKNOWN;
        }
        if (!within(key, 65535)) {
            return BAD_VALUE;
        }
        if (key < heap.floor || key > entry.key) {
            return NOT_POSSIBLE;
        }
        if (key == entry.key) {
            return NONE;
        }
        int former = heap.pileOf(number);
        entry.key = key;
        if (heap.pileFor(key) != former) {
            heap.rows.get(former).remove(entry);
            heap.move(entry);
        }
        return heap.pileOf(number);
    }

    private int giveBack(int number) {
        Entry entry = state.heap.find(number);
        if (entry == null) {
            return UNKNOWN;
        }
        state.heap.rows.get(state.heap.pileOf(number)).remove(entry);
        state.takenBack++;
        return entry.key;
    }

    int comeIn(int key, int value) {
        State before = state.copy();
        return acted(before, bringIn(key, value));
    }

    int comeOut() {
        State before = state.copy();
        return acted(before, letOut());
    }

    int comeOutUpTo(int key) {
        if (!within(key, 65535)) {
            return BAD_VALUE;
        }
        State before = state.copy();
        int outNow = 0;
        while (next(1) != NONE && next(1) <= key) {
            letOut();
            outNow++;
        }
        return outNow == 0 ? NONE : acted(before, outNow);
    }

    int less(int number, int key) {
        State before = state.copy();
        return acted(before, makeLess(number, key));
    }

    int takeBack(int number) {
        State before = state.copy();
        return acted(before, giveBack(number));
    }

    int road(int from, int to, int length) {
        if (!within(from, 11) || !within(to, 11)) {
            return UNKNOWN;
        }
        if (!within(length, 999) || from == to) {
            return BAD_VALUE;
        }
        if (state.roads[from][to] == length) {
            return NONE;
        }
        if (state.roads[from][to] == NONE && state.roadsLaid() == 40) {
            return FULL;
        }
        State before = state.copy();
        state.roads[from][to] = length;
        return acted(before, state.roadsLaid());
    }

    int unroad(int from, int to) {
        if (!within(from, 11) || !within(to, 11) || state.roads[from][to] == NONE) {
            return UNKNOWN;
        }
        State before = state.copy();
        int length = state.roads[from][to];
        state.roads[from][to] = NONE;
        return acted(before, length);
    }

    int type(char character) {
        if (text.length() == 60) {
            return FULL;
        }
        text = text + character;
        return text.length();
    }

    int clearText() {
        int length = text.length();
        text = "";
        return length;
    }

    private int fault() {
        for (int i = 1; i <= text.length(); i++) {
            Matcher matcher = ORDERS.matcher(text.substring(0, i));
            if (!matcher.matches() && !matcher.hitEnd()) {
                return i - 1;
            }
        }
        return ORDERS.matcher(text).matches() ? -1 : text.length();
    }

    private int carryOut(String order) {
        String rest = order.substring(1);
        switch (order.charAt(0)) {
            case '+': {
                String[] parts = rest.split(":");
                return bringIn(Integer.parseInt(parts[0]), parts.length == 1 ? 0 : Integer.parseInt(parts[1]));
            }
            case '-':
                return letOut();
            case 'x':
                return giveBack(Integer.parseInt(rest));
            default: {
                String[] parts = rest.split("=");
                return makeLess(Integer.parseInt(parts[0]), Integer.parseInt(parts[1]));
            }
        }
    }

    int perform() {
        int fault = fault();
        if (fault >= 0) {
            return -100 - fault;
        }
        State before = state.copy();
        String[] orders = text.split(",");
        for (int i = 0; i < orders.length; i++) {
            int answer = carryOut(orders[i]);
            if (answer < 0 && answer != NONE) {
                refusedOrder = i;
                refusedError = answer;
                state = before;
                return NOT_POSSIBLE;
            }
        }
        return acted(before, orders.length);
    }

    int refusal(int what) {
        if (!within(what, 1)) {
            return BAD_VALUE;
        }
        return refusedError == 0 ? NONE : what == 0 ? refusedOrder : refusedError;
    }

    int undo() {
        if (history.isEmpty()) {
            return NONE;
        }
        state = history.remove(history.size() - 1);
        return history.size();
    }

    int keep() {
        snapshot = state.copy();
        return state.heap.size();
    }

    int restore() {
        if (snapshot == null) {
            return NONE;
        }
        State before = state;
        state = snapshot.copy();
        return acted(before, state.heap.size());
    }

    int entry(int number, int what) {
        Entry entry = state.heap.find(number);
        if (entry == null) {
            return UNKNOWN;
        }
        int pile = state.heap.pileOf(number);
        int[] told = {entry.key, entry.value, pile, state.heap.rows.get(pile).indexOf(entry), entry.moves};
        return within(what, 4) ? told[what] : BAD_VALUE;
    }

    int pile(int pile, int what) {
        if (!within(pile, 16)) {
            return UNKNOWN;
        }
        List<Entry> row = state.heap.rows.get(pile);
        if (!within(what, 3)) {
            return BAD_VALUE;
        }
        if (what == 0) {
            return row.size();
        }
        if (row.isEmpty()) {
            return NONE;
        }
        int[] keys = row.stream().mapToInt(e -> e.key).sorted().toArray();
        return what == 1 ? keys[0] : what == 2 ? keys[keys.length - 1] : row.get(0).number;
    }

    int next(int what) {
        if (!within(what, 2)) {
            return BAD_VALUE;
        }
        Heap copy = state.heap.copy();
        Entry entry = copy.letOut();
        if (entry == null) {
            return NONE;
        }
        return what == 0 ? entry.number : what == 1 ? entry.key : copy.moves - state.heap.moves;
    }

    int ranked(int rank) {
        if (rank < 0) {
            return BAD_VALUE;
        }
        Heap copy = state.heap.copy();
        for (int i = 0; i < rank && i < 40; i++) {
            copy.letOut();
        }
        Entry entry = copy.letOut();
        return entry == null ? NONE : entry.number;
    }

    int movesLeft() {
        int sum = 0;
        for (int i = 0; i < 17; i++) {
            sum += i * state.heap.rows.get(i).size();
        }
        return sum;
    }

    int out(int back, int what) {
        if (back < 0 || !within(what, 3)) {
            return BAD_VALUE;
        }
        if (back >= Math.min(8, state.out.size())) {
            return NONE;
        }
        Entry entry = state.out.get(back);
        return new int[] {entry.number, entry.key, entry.value, entry.moves}[what];
    }

    int roadOf(int from, int to) {
        return within(from, 11) && within(to, 11) ? state.roads[from][to] : UNKNOWN;
    }

    /** By trying all roads again and again, without piles. */
    int distance(int from, int to) {
        if (!within(from, 11) || !within(to, 11)) {
            return UNKNOWN;
        }
        int far = 1_000_000;
        int[] distances = new int[12];
        Arrays.fill(distances, far);
        distances[from] = 0;
        for (int round = 0; round < 12; round++) {
            for (int a = 0; a < 12; a++) {
                for (int b = 0; b < 12; b++) {
                    if (state.roads[a][b] != NONE) {
                        distances[b] = Math.min(distances[b], distances[a] + state.roads[a][b]);
                    }
                }
            }
        }
        return distances[to] >= far ? NONE : distances[to];
    }

    int search(int from, int what) {
        if (!within(from, 11)) {
            return UNKNOWN;
        }
        if (!within(what, 3)) {
            return BAD_VALUE;
        }
        Heap heap = new Heap();
        boolean[] done = new boolean[12];
        int cameIn = 1;
        int townsDone = 0;
        int greatest = 0;
        heap.arrive(new Entry(0, 0, from, 0));
        while (heap.size() > 0) {
            Entry entry = heap.letOut();
            if (done[entry.value]) {
                continue;
            }
            done[entry.value] = true;
            townsDone++;
            greatest = entry.key;
            for (int to = 0; to < 12; to++) {
                if (state.roads[entry.value][to] != NONE && !done[to]) {
                    heap.arrive(new Entry(cameIn++, entry.key + state.roads[entry.value][to], to, 0));
                }
            }
        }
        return new int[] {townsDone, cameIn, heap.moves, greatest}[what];
    }

    int count(int what) {
        switch (what) {
            case 0: return state.heap.size();
            case 1: return state.cameIn;
            case 2: return state.out.size();
            case 3: return state.heap.floor;
            case 4: return state.heap.moves;
            case 5: return (int) state.heap.rows.stream().filter(row -> !row.isEmpty()).count();
            case 6: return state.roadsLaid();
            case 7: return state.takenBack;
            case 8: return history.size();
            case 9: return text.length();
            default: return BAD_VALUE;
        }
    }
}

import java.util.ArrayList;
import java.util.Arrays;
import java.util.Collections;
import java.util.EnumSet;
import java.util.List;
import java.util.Set;
import java.util.regex.Matcher;
import java.util.regex.Pattern;

/**
 * The document told a second time, by other means, for the random runs: each pile has a row of its own, what comes
 * out is found by emptying the piles of a copy, faults by asking a pattern how far a text can still become a sound one.
 * Its limits and flaws are open to Fault, which makes models of it in which one sentence of the document does not hold.
 */
final class Model implements Face {
    private static final int UNKNOWN = -1;
    private static final int BAD_VALUE = -2;
    private static final int FULL = -3;
    private static final int NOT_POSSIBLE = -4;
    private static final int NONE = -5;

    static final String KEY = "(?:0|[1-9]\\d{0,3}|[1-5]\\d{4}|6[0-4]\\d{3}|65[0-4]\\d\\d|655[0-2]\\d|6553[0-5])";
    static final String SMALL = "(?:0|[1-9]\\d{0,2})";
    static final String ORDER = orderOf(KEY, SMALL);
    private static final Pattern ORDERS = listOf(ORDER);

    /** What a model can do otherwise than the document says; none of it is done unless a Fault asks for it. */
    enum Flaw {
        COMES_TO_THE_FRONT, EMPTIES_ALWAYS, EMPTIES_THE_HIGHEST, EMPTIES_BACKWARDS, LEAVES_THE_FLOOR, FLOOR_OF_THE_FRONT,
        LAST_COMES_OUT, LESS_GOES_TO_THE_END, LESS_MAKES_NO_MOVE, LESS_ALWAYS_MOVES, SEARCH_STOPS_WHEN_ALL_ARE_DONE,
        SEARCH_DOES_TOWNS_AGAIN, SEARCH_GOES_TO_DONE_TOWNS, SEARCH_GOES_BACKWARDS, PERFORM_LEAVES_WHAT_IS_DONE,
        PERFORM_REFUSES_NONE
    }

    static final class Entry {
        final int number;
        final int value;
        int key;
        int moves;

        Entry(int number, int key, int value, int moves) {
            this.number = number;
            this.key = key;
            this.value = value;
            this.moves = moves;
        }

        Entry copy() {
            return new Entry(number, key, value, moves);
        }
    }

    static final class Heap {
        final List<List<Entry>> rows = new ArrayList<>();
        private final Set<Flaw> flaws;
        int floor;
        int moves;

        Heap(Set<Flaw> flaws) {
            this.flaws = flaws;
            for (int i = 0; i < 17; i++) {
                rows.add(new ArrayList<>());
            }
        }

        Heap copy() {
            Heap copy = new Heap(flaws);
            copy.floor = floor;
            copy.moves = moves;
            for (int i = 0; i < 17; i++) {
                for (Entry entry : rows.get(i)) {
                    copy.rows.get(i).add(entry.copy());
                }
            }
            return copy;
        }

        int pileFor(int key) {
            return key == floor ? 0 : 32 - Integer.numberOfLeadingZeros(key ^ floor);
        }

        void arrive(Entry entry) {
            List<Entry> row = rows.get(pileFor(entry.key));
            row.add(flaws.contains(Flaw.COMES_TO_THE_FRONT) ? 0 : row.size(), entry);
        }

        void move(Entry entry) {
            entry.moves++;
            moves++;
            arrive(entry);
        }

        int size() {
            return rows.stream().mapToInt(List::size).sum();
        }

        int lowest() {
            for (int i = 0; i < 17; i++) {
                if (!rows.get(i).isEmpty()) {
                    return i;
                }
            }
            return -1;
        }

        private int highest() {
            for (int i = 16; i >= 0; i--) {
                if (!rows.get(i).isEmpty()) {
                    return i;
                }
            }
            return -1;
        }

        int pileOf(int number) {
            for (int i = 0; i < 17; i++) {
                for (Entry entry : rows.get(i)) {
                    if (entry.number == number) {
                        return i;
                    }
                }
            }
            return -1;
        }

        Entry find(int number) {
            int pile = pileOf(number);
            return pile < 0 ? null : rows.get(pile).stream().filter(e -> e.number == number).findFirst().orElse(null);
        }

        /** Brings the next entry to the pile 0. */
        void bringUp() {
            int emptied = lowest();
            if (emptied > 0 && flaws.contains(Flaw.EMPTIES_THE_HIGHEST)) {
                emptied = highest();
            }
            if (emptied > 0 || emptied == 0 && flaws.contains(Flaw.EMPTIES_ALWAYS)) {
                empty(emptied);
            }
        }

        private void empty(int pile) {
            List<Entry> emptied = new ArrayList<>(rows.get(pile));
            rows.get(pile).clear();
            floor = flaws.contains(Flaw.FLOOR_OF_THE_FRONT) ? emptied.get(0).key
                : emptied.stream().mapToInt(e -> e.key).min().getAsInt();
            if (flaws.contains(Flaw.EMPTIES_BACKWARDS)) {
                Collections.reverse(emptied);
            }
            emptied.forEach(this::move);
        }

        Entry letOut() {
            if (size() == 0) {
                return null;
            }
            int former = floor;
            bringUp();
            List<Entry> row = rows.get(0);
            Entry entry = row.remove(flaws.contains(Flaw.LAST_COMES_OUT) ? row.size() - 1 : 0);
            floor = flaws.contains(Flaw.LEAVES_THE_FLOOR) ? former : floor;
            return entry;
        }
    }

    static final class State {
        Heap heap;
        List<Entry> out = new ArrayList<>();
        int[][] roads = new int[12][12];
        int cameIn;
        int takenBack;

        State(Heap heap) {
            this.heap = heap;
            for (int[] row : roads) {
                Arrays.fill(row, NONE);
            }
        }

        State copy() {
            State copy = new State(heap.copy());
            copy.out = new ArrayList<>(out);
            for (int i = 0; i < 12; i++) {
                copy.roads[i] = roads[i].clone();
            }
            copy.cameIn = cameIn;
            copy.takenBack = takenBack;
            return copy;
        }

        int roadsLaid() {
            return (int) Arrays.stream(roads).flatMapToInt(Arrays::stream).filter(length -> length != NONE).count();
        }
    }

    int mostInPiles = 40;
    int mostComing = 1000;
    int mostRoads = 40;
    int mostInText = 60;
    int mostStates = 4;
    int mostTold = 8;
    int valueOfOrders = 0;
    Pattern orders = ORDERS;
    final Set<Flaw> flaws = EnumSet.noneOf(Flaw.class);

    State state = new State(new Heap(flaws));
    State snapshot;
    final List<State> history = new ArrayList<>();
    String text = "";
    int refusedOrder;
    int refusedError;

    static String orderOf(String key, String small) {
        return "(?:\\+" + key + "(?::" + small + ")?|-|x" + small + "|<" + small + "=" + key + ")";
    }

    static Pattern listOf(String order) {
        return Pattern.compile(order + "(?:," + order + ")*");
    }

    private static boolean within(int number, int most) {
        return number >= 0 && number <= most;
    }

    private int acted(State before, int answer) {
        if (answer >= 0) {
            history.add(before);
            if (history.size() > mostStates) {
                history.remove(0);
            }
        }
        return answer;
    }

    private int bringIn(int key, int value) {
        if (!within(key, 65535) || !within(value, 999)) {
            return BAD_VALUE;
        }
        if (key < state.heap.floor) {
            return NOT_POSSIBLE;
        }
        if (state.heap.size() >= mostInPiles || state.cameIn >= mostComing) {
            return FULL;
        }
        state.heap.arrive(new Entry(state.cameIn, key, value, 0));
        return state.cameIn++;
    }

    private int letOut() {
        Entry entry = state.heap.letOut();
        if (entry == null) {
            return NONE;
        }
        state.out.add(0, entry);
        return entry.number;
    }

    private int makeLess(int number, int key) {
        Heap heap = state.heap;
        Entry entry = heap.find(number);
        if (entry == null) {
            return UNKNOWN;
        }
        if (!within(key, 65535)) {
            return BAD_VALUE;
        }
        if (key < heap.floor || key > entry.key) {
            return NOT_POSSIBLE;
        }
        if (key == entry.key) {
            return NONE;
        }
        int former = heap.pileOf(number);
        entry.key = key;
        if (heap.pileFor(key) != former) {
            heap.rows.get(former).remove(entry);
            lessMoves(entry);
        } else if (flaws.contains(Flaw.LESS_GOES_TO_THE_END)) {
            heap.rows.get(former).remove(entry);
            heap.arrive(entry);
        } else if (flaws.contains(Flaw.LESS_ALWAYS_MOVES)) {
            entry.moves++;
            heap.moves++;
        }
        return heap.pileOf(number);
    }

    private void lessMoves(Entry entry) {
        if (flaws.contains(Flaw.LESS_MAKES_NO_MOVE)) {
            state.heap.arrive(entry);
        } else {
            state.heap.move(entry);
        }
    }

    private int giveBack(int number) {
        Entry entry = state.heap.find(number);
        if (entry == null) {
            return UNKNOWN;
        }
        state.heap.rows.get(state.heap.pileOf(number)).remove(entry);
        state.takenBack++;
        return entry.key;
    }

    @Override
    public int comeIn(int key, int value) {
        State before = state.copy();
        return acted(before, bringIn(key, value));
    }

    @Override
    public int comeOut() {
        State before = state.copy();
        return acted(before, letOut());
    }

    @Override
    public int comeOutUpTo(int key) {
        if (!within(key, 65535)) {
            return BAD_VALUE;
        }
        State before = state.copy();
        int outNow = 0;
        while (next(1) != NONE && next(1) <= key) {
            letOut();
            outNow++;
        }
        return outNow == 0 ? NONE : acted(before, outNow);
    }

    @Override
    public int less(int number, int key) {
        State before = state.copy();
        return acted(before, makeLess(number, key));
    }

    @Override
    public int takeBack(int number) {
        State before = state.copy();
        return acted(before, giveBack(number));
    }

    @Override
    public int road(int from, int to, int length) {
        if (!within(from, 11) || !within(to, 11)) {
            return UNKNOWN;
        }
        if (!within(length, 999) || from == to) {
            return BAD_VALUE;
        }
        if (state.roads[from][to] == length) {
            return NONE;
        }
        if (state.roads[from][to] == NONE && state.roadsLaid() >= mostRoads) {
            return FULL;
        }
        State before = state.copy();
        state.roads[from][to] = length;
        return acted(before, state.roadsLaid());
    }

    @Override
    public int unroad(int from, int to) {
        if (!within(from, 11) || !within(to, 11) || state.roads[from][to] == NONE) {
            return UNKNOWN;
        }
        State before = state.copy();
        int length = state.roads[from][to];
        state.roads[from][to] = NONE;
        return acted(before, length);
    }

    @Override
    public int type(char character) {
        if (text.length() >= mostInText) {
            return FULL;
        }
        text = text + character;
        return text.length();
    }

    @Override
    public int clearText() {
        int length = text.length();
        text = "";
        return length;
    }

    private int fault() {
        for (int i = 1; i <= text.length(); i++) {
            Matcher matcher = orders.matcher(text.substring(0, i));
            if (!matcher.matches() && !matcher.hitEnd()) {
                return i - 1;
            }
        }
        return orders.matcher(text).matches() ? -1 : text.length();
    }

    /** Takes the numbers of an order where it finds them, so that it can carry out what a Fault lets pass, too. */
    private int carryOut(String order) {
        int[] numbers = Pattern.compile("\\d+").matcher(order).results().mapToInt(found -> (int) Long.parseLong(found.group())).toArray();
        int first = numbers.length > 0 ? numbers[0] : 0;
        int second = numbers.length > 1 ? numbers[1] : valueOfOrders;
        switch (order.strip().charAt(0)) {
            case '+': return bringIn(first, second);
            case '-': return letOut();
            case 'x': case 'X': return giveBack(first);
            case '<': return makeLess(first, second);
            default: throw new IllegalArgumentException("no order: " + order);
        }
    }

    @Override
    public int perform() {
        int fault = fault();
        if (fault >= 0) {
            return -100 - fault;
        }
        State before = state.copy();
        String[] each = text.split(",");
        for (int i = 0; i < each.length; i++) {
            int answer = carryOut(each[i]);
            if (answer < 0 && (answer != NONE || flaws.contains(Flaw.PERFORM_REFUSES_NONE))) {
                refusedOrder = i;
                refusedError = answer;
                state = flaws.contains(Flaw.PERFORM_LEAVES_WHAT_IS_DONE) ? state : before;
                return NOT_POSSIBLE;
            }
        }
        return acted(before, each.length);
    }

    @Override
    public int refusal(int what) {
        if (!within(what, 1)) {
            return BAD_VALUE;
        }
        return refusedError == 0 ? NONE : what == 0 ? refusedOrder : refusedError;
    }

    @Override
    public int undo() {
        if (history.isEmpty()) {
            return NONE;
        }
        state = history.remove(history.size() - 1);
        return history.size();
    }

    @Override
    public int keep() {
        snapshot = state.copy();
        return state.heap.size();
    }

    @Override
    public int restore() {
        if (snapshot == null) {
            return NONE;
        }
        State before = state;
        state = snapshot.copy();
        return acted(before, state.heap.size());
    }

    @Override
    public int entry(int number, int what) {
        Entry entry = state.heap.find(number);
        if (entry == null) {
            return UNKNOWN;
        }
        int pile = state.heap.pileOf(number);
        int[] told = {entry.key, entry.value, pile, state.heap.rows.get(pile).indexOf(entry), entry.moves};
        return within(what, 4) ? told[what] : BAD_VALUE;
    }

    @Override
    public int pile(int pile, int what) {
        if (!within(pile, 16)) {
            return UNKNOWN;
        }
        List<Entry> row = state.heap.rows.get(pile);
        if (!within(what, 3)) {
            return BAD_VALUE;
        }
        if (what == 0) {
            return row.size();
        }
        if (row.isEmpty()) {
            return NONE;
        }
        int[] keys = row.stream().mapToInt(e -> e.key).sorted().toArray();
        return what == 1 ? keys[0] : what == 2 ? keys[keys.length - 1] : row.get(0).number;
    }

    @Override
    public int next(int what) {
        if (!within(what, 2)) {
            return BAD_VALUE;
        }
        Heap copy = state.heap.copy();
        Entry entry = copy.letOut();
        if (entry == null) {
            return NONE;
        }
        return what == 0 ? entry.number : what == 1 ? entry.key : copy.moves - state.heap.moves;
    }

    @Override
    public int ranked(int rank) {
        if (rank < 0) {
            return BAD_VALUE;
        }
        Heap copy = state.heap.copy();
        for (int i = 0; i < rank && i < 40; i++) {
            copy.letOut();
        }
        Entry entry = copy.letOut();
        return entry == null ? NONE : entry.number;
    }

    @Override
    public int movesLeft() {
        int sum = 0;
        for (int i = 0; i < 17; i++) {
            sum += i * state.heap.rows.get(i).size();
        }
        return sum;
    }

    @Override
    public int out(int back, int what) {
        if (back < 0 || !within(what, 3)) {
            return BAD_VALUE;
        }
        if (back >= Math.min(mostTold, state.out.size())) {
            return NONE;
        }
        Entry entry = state.out.get(back);
        return new int[] {entry.number, entry.key, entry.value, entry.moves}[what];
    }

    @Override
    public int roadOf(int from, int to) {
        return within(from, 11) && within(to, 11) ? state.roads[from][to] : UNKNOWN;
    }

    /** By trying all roads again and again, without piles. */
    @Override
    public int distance(int from, int to) {
        if (!within(from, 11) || !within(to, 11)) {
            return UNKNOWN;
        }
        int far = 1_000_000;
        int[] distances = new int[12];
        Arrays.fill(distances, far);
        distances[from] = 0;
        for (int round = 0; round < 12; round++) {
            for (int a = 0; a < 12; a++) {
                for (int b = 0; b < 12; b++) {
                    if (state.roads[a][b] != NONE) {
                        distances[b] = Math.min(distances[b], distances[a] + state.roads[a][b]);
                    }
                }
            }
        }
        return distances[to] >= far ? NONE : distances[to];
    }

    @Override
    public int search(int from, int what) {
        if (!within(from, 11)) {
            return UNKNOWN;
        }
        if (!within(what, 3)) {
            return BAD_VALUE;
        }
        Heap heap = new Heap(flaws);
        boolean[] done = new boolean[12];
        int cameIn = 1;
        int townsDone = 0;
        int greatest = 0;
        heap.arrive(new Entry(0, 0, from, 0));
        while (heap.size() > 0 && !(townsDone == 12 && flaws.contains(Flaw.SEARCH_STOPS_WHEN_ALL_ARE_DONE))) {
            Entry entry = heap.letOut();
            if (done[entry.value] && !flaws.contains(Flaw.SEARCH_DOES_TOWNS_AGAIN)) {
                continue;
            }
            done[entry.value] = true;
            townsDone++;
            greatest = entry.key;
            for (int i = 0; i < 12; i++) {
                int to = flaws.contains(Flaw.SEARCH_GOES_BACKWARDS) ? 11 - i : i;
                boolean open = !done[to] || flaws.contains(Flaw.SEARCH_GOES_TO_DONE_TOWNS);
                if (state.roads[entry.value][to] != NONE && open) {
                    heap.arrive(new Entry(cameIn++, entry.key + state.roads[entry.value][to], to, 0));
                }
            }
        }
        return new int[] {townsDone, cameIn, heap.moves, greatest}[what];
    }

    @Override
    public int count(int what) {
        switch (what) {
            case 0: return state.heap.size();
            case 1: return state.cameIn;
            case 2: return state.out.size();
            case 3: return state.heap.floor;
            case 4: return state.heap.moves;
            case 5: return (int) state.heap.rows.stream().filter(row -> !row.isEmpty()).count();
            case 6: return state.roadsLaid();
            case 7: return state.takenBack;
            case 8: return history.size();
            case 9: return text.length();
            default: return BAD_VALUE;
        }
    }
}

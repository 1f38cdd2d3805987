/** The sentences of promises 1 to 6 that name boundary cases. */
final class BoundariesOfEntries extends Boundaries {
    private static final int[] NO_ENTRIES = {-1, -2, -5, 4, 39, 40, 999, 1000, MAX, MIN};

    BoundariesOfEntries() {
        newObject();
        comeInTakes();
        comeInAnswers();
        comeOutAnswers();
        comeOutUpToTakes();
        comeOutUpToAnswers();
        lessTakes();
        lessAnswers();
        takeBackAnswers();
    }

    private void newObject() {
        under("Promise 1");
        holds("Creates empty piles, and towns without roads", t -> {
            Face used = t.fresh();
            comeIn(used, 3, 4);
            used.road(0, 1, 2);
            used.keep();
            used.comeOut();
            used.type('-');
            Face x = t.fresh();
            for (int what = 0; what <= 9; what++) {
                t.due(x.count(what), 0);
            }
            for (int pile = 0; pile <= 16; pile++) {
                t.due(x.pile(pile, 0), 0);
            }
            for (int from = 0; from < 12; from++) {
                for (int to = 0; to < 12; to++) {
                    t.due(x.roadOf(from, to), NONE);
                }
            }
            t.due(x.entry(0, 0), UNKNOWN);
            t.due(x.next(0), NONE);
            t.due(x.ranked(0), NONE);
            t.due(x.movesLeft(), 0);
            t.due(x.out(0, 0), NONE);
            t.due(x.refusal(0), NONE);
            t.due(x.undo(), NONE);
            t.due(x.restore(), NONE);
            t.due(x.comeOut(), NONE);
            t.due(x.clearText(), 0);
        }).not(
            Fault.altered(m -> m.comeIn(0, 0)),
            Fault.altered(m -> m.road(11, 10, 0)),
            Fault.altered(m -> m.state.heap.floor = 1),
            Fault.altered(Model::keep),
            Fault.altered(m -> m.type('+')),
            Fault.altered(m -> m.refusedError = UNKNOWN));
    }

    private void comeInTakes() {
        under("Promise 2");
        holds("An entry comes in. This is an act", t -> {
            Face x = t.fresh();
            t.due(x.comeIn(4, 3), 0);
            t.due(x.count(8), 1);
            t.due(x.comeIn(-1, 3), BAD_VALUE);
            t.due(x.count(8), 1);
            t.due(x.undo(), 0);
            t.due(x.count(0), 0);
            t.due(x.count(1), 0);
        }).not(
            Fault.bent("comeIn", (m, a) -> unrecorded(m, m.comeIn(a[0], a[1]))),
            Fault.bent("comeIn", (m, a) -> recorded(m, m.comeIn(a[0], a[1]))));
        holds("`key`: 0 to 65535", t -> {
            Face x = t.fresh();
            for (int key : new int[] {-1, 65536, 65537, 131071, -65535, MAX, MIN}) {
                t.due(x.comeIn(key, 0), BAD_VALUE);
            }
            t.due(x.count(1), 0);
            t.due(x.comeIn(0, 0), 0);
            t.due(x.comeIn(1, 0), 1);
            t.due(x.comeIn(65534, 0), 2);
            t.due(x.comeIn(65535, 0), 3);
            t.due(x.entry(3, 2), 16);
        }).not(Fault.range("comeIn", 0, 0, 65535, BAD_VALUE))
            .not(Fault.bent("comeIn", (m, a) -> m.comeIn(a[0] & 65535, a[1])));
        holds("`value`: 0 to 999", t -> {
            Face x = t.fresh();
            for (int value : new int[] {-1, 1000, 1001, 65536, MAX, MIN}) {
                t.due(x.comeIn(0, value), BAD_VALUE);
            }
            t.due(x.count(1), 0);
            t.due(x.comeIn(0, 0), 0);
            t.due(x.comeIn(0, 1), 1);
            t.due(x.comeIn(0, 998), 2);
            t.due(x.comeIn(0, 999), 3);
            t.due(x.entry(3, 1), 999);
        }).not(Fault.range("comeIn", 1, 0, 999, BAD_VALUE));
    }

    private void comeInAnswers() {
        holds("NOT_POSSIBLE if key is less than the floor", t -> {
            Face x = t.fresh();
            comeIn(x, 500);
            t.due(x.comeIn(499, 0), 1);
            t.due(x.comeOutUpTo(500), 2);
            t.due(x.comeIn(499, 0), NOT_POSSIBLE);
            t.due(x.comeIn(0, 0), NOT_POSSIBLE);
            t.due(x.comeIn(500, 0), 2);
            t.due(x.undo(), 3);
            t.due(x.undo(), 2);
            t.due(x.comeIn(499, 0), 2);
        }).not(
            Fault.when("comeIn", (m, a) -> a[0] == m.count(3) && a[0] > 0, NOT_POSSIBLE),
            Fault.bent("comeIn", (m, a) -> m.comeIn(a[0] == m.count(3) - 1 ? a[0] + 1 : a[0], a[1])),
            Fault.answered("comeIn", NOT_POSSIBLE, BAD_VALUE));
        holds("FULL if there are 40", t -> {
            Face x = t.fresh();
            comeIn(x, 1);
            x.comeOut();
            for (int i = 1; i <= 40; i++) {
                t.due(x.comeIn(1, 0), i);
            }
            t.due(x.comeIn(1, 0), FULL);
            t.due(x.takeBack(17), 1);
            t.due(x.comeIn(1, 0), 41);
            t.due(x.comeIn(1, 0), FULL);
            t.due(x.comeOut(), 1);
            t.due(x.comeIn(1, 0), 42);
            t.due(x.comeIn(1, 0), FULL);
            t.due(x.undo(), 3);
            t.due(x.comeIn(1, 0), 42);
        }).not(
            Fault.altered(m -> m.mostInPiles = 39),
            Fault.altered(m -> m.mostInPiles = 41),
            Fault.answered("comeIn", FULL, NOT_POSSIBLE));
        holds("or there have been 1000", t -> {
            Face x = t.fresh();
            throughOut(x, 98);
            for (int i = 980; i < 1000; i++) {
                t.due(x.comeIn(0, 0), i);
            }
            t.due(x.count(0), 20);
            t.due(x.comeIn(0, 0), FULL);
            t.due(x.takeBack(999), 0);
            t.due(x.comeIn(0, 0), FULL);
            t.due(x.undo(), 3);
            t.due(x.undo(), 2);
            t.due(x.comeIn(0, 0), 999);
        }).not(
            Fault.altered(m -> m.mostComing = 999),
            Fault.altered(m -> m.mostComing = 1001),
            Fault.bent("comeIn", (m, a) -> m.count(1) - m.count(7) < 1000 ? again(m, a) : m.comeIn(a[0], a[1])));
        holds("Returns its number; BAD_VALUE; NOT_POSSIBLE if key is less than the floor; FULL if there are 40, or there have"
            + " been 1000", t -> {
            Face x = t.fresh();
            comeIn(x, 9);
            x.comeOut();
            t.due(x.comeIn(8, 1000), BAD_VALUE);
            t.due(x.comeIn(-1, 0), BAD_VALUE);
            for (int i = 1; i <= 40; i++) {
                t.due(x.comeIn(9, 0), i);
            }
            t.due(x.comeIn(9, 1000), BAD_VALUE);
            t.due(x.comeIn(65536, 0), BAD_VALUE);
            t.due(x.comeIn(8, 0), NOT_POSSIBLE);
            t.due(x.comeIn(8, -1), BAD_VALUE);
            t.due(x.comeIn(9, 0), FULL);
        }).not(
            Fault.when("comeIn", (m, a) -> a[0] < m.count(3), NOT_POSSIBLE),
            Fault.when("comeIn", (m, a) -> m.count(0) == 40, FULL),
            Fault.when("comeIn", (m, a) -> m.count(0) == 40 && a[0] >= m.count(3), FULL));
    }

    /** Comes in even if a thousand have come, when some of them were taken back. */
    private static int again(Model m, int[] a) {
        m.mostComing = 1000 + m.count(7);
        return m.comeIn(a[0], a[1]);
    }

    private void comeOutAnswers() {
        under("Promise 3");
        holds("An entry comes out. This is an act", t -> {
            Face x = t.fresh();
            comeIn(x, 4);
            t.due(x.comeOut(), 0);
            t.due(x.count(8), 2);
            t.due(x.undo(), 1);
            t.due(x.entry(0, 4), 0);
            t.due(x.count(3), 0);
            t.due(x.out(0, 0), NONE);
            t.due(x.count(2), 0);
        }).not(Fault.bent("comeOut", (m, a) -> unrecorded(m, m.comeOut())), Fault.bent("undo", (m, a) -> {
            int floor = m.count(3);
            int left = m.undo();
            m.state.heap.floor = floor;
            return left;
        }));
        holds("Returns its number; NONE if there is none", t -> {
            Face x = t.fresh();
            t.due(x.comeOut(), NONE);
            t.due(x.count(8), 0);
            t.due(x.count(2), 0);
            comeIn(x, 65535, 0);
            t.due(x.comeOut(), 1);
            t.due(x.comeOut(), 0);
            t.due(x.comeOut(), NONE);
            t.due(x.count(3), 65535);
            t.due(x.count(8), 4);
            x.comeIn(65535, 0);
            t.due(x.takeBack(2), 65535);
            t.due(x.comeOut(), NONE);
        }).not(
            Fault.answered("comeOut", NONE, UNKNOWN),
            Fault.answered("comeOut", NONE, 0),
            Fault.bent("comeOut", (m, a) -> recorded(m, m.comeOut())),
            Fault.bent("comeOut", (m, a) -> m.count(0) == 1 && m.next(1) == 65535 ? NONE : m.comeOut()));
    }

    private void comeOutUpToTakes() {
        under("Promise 4");
        holds("Lets entries come out, one after the other, as long as the key of the next one (as next() tells it; no pile is emptied"
            + " for that) is not greater than a key", t -> {
            Face x = t.fresh();
            comeIn(x, 4, 9, 8, 4, 10);
            t.due(x.comeOutUpTo(3), NONE);
            t.due(x.count(4), 0);
            t.due(x.comeOutUpTo(7), 2);
            t.due(x.out(0, 0), 3);
            t.due(x.out(1, 0), 0);
            t.due(x.count(3), 4);
            t.due(x.pile(4, 0), 3);
            t.due(x.count(4), 2);
            t.due(x.comeOutUpTo(9), 2);
            t.due(x.out(0, 0), 1);
            t.due(x.count(3), 9);
            t.due(x.entry(4, 2), 2);
            t.due(x.comeOutUpTo(9), NONE);
            t.due(x.comeOutUpTo(10), 1);
        }).not(
            Fault.bent("comeOutUpTo", (m, a) -> {
                int answer = m.comeOutUpTo(a[0]);
                m.state.heap.bringUp();
                return answer;
            }),
            Fault.bent("comeOutUpTo", (m, a) -> a[0] < 0 || a[0] > 65535 ? BAD_VALUE : a[0] == 0 ? NONE : m.comeOutUpTo(a[0] - 1)),
            Fault.bent("comeOutUpTo", (m, a) -> m.next(1) >= 0 && m.next(1) <= a[0] ? m.comeOutUpTo(m.next(1)) : NONE),
            Fault.bent("comeOutUpTo", (m, a) -> a[0] >= 0 && a[0] < 65535 ? m.comeOutUpTo(a[0] + 1) : m.comeOutUpTo(a[0])));
        holds("This is an act", t -> {
            Face x = t.fresh();
            comeIn(x, 1, 2, 3);
            t.due(x.comeOutUpTo(2), 2);
            t.due(x.count(8), 4);
            t.due(x.undo(), 3);
            t.due(x.count(0), 3);
            t.due(x.count(2), 0);
            t.due(x.count(3), 0);
            t.due(x.comeOutUpTo(0), NONE);
            t.due(x.comeOutUpTo(-1), BAD_VALUE);
            t.due(x.count(8), 3);
        }).not(
            Fault.bent("comeOutUpTo", (m, a) -> unrecorded(m, m.comeOutUpTo(a[0]))),
            Fault.bent("comeOutUpTo", (m, a) -> recorded(m, m.comeOutUpTo(a[0]))),
            Fault.bent("comeOutUpTo", (m, a) -> {
                int many = 0;
                while (m.next(1) >= 0 && m.next(1) <= a[0]) {
                    m.comeOut();
                    many++;
                }
                return many > 0 ? many : m.comeOutUpTo(a[0]);
            }));
        holds("`key`: 0 to 65535", t -> {
            Face x = t.fresh();
            comeIn(x, 0, 65535);
            for (int key : new int[] {-1, 65536, 131072, MAX, MIN}) {
                t.due(x.comeOutUpTo(key), BAD_VALUE);
            }
            t.due(x.count(0), 2);
            t.due(x.comeOutUpTo(0), 1);
            t.due(x.comeOutUpTo(0), NONE);
            t.due(x.comeOutUpTo(65534), NONE);
            t.due(x.comeOutUpTo(65535), 1);
        }).not(Fault.range("comeOutUpTo", 0, 0, 65535, BAD_VALUE));
    }

    private void comeOutUpToAnswers() {
        holds("Returns how many come out", t -> {
            Face x = t.fresh();
            comeIn(x, 7);
            t.due(x.comeOutUpTo(7), 1);
            for (int i = 0; i < 40; i++) {
                x.comeIn(7 + 1000 * i, 0);
            }
            t.due(x.comeOutUpTo(65535), 40);
            t.due(x.count(0), 0);
            t.due(x.count(2), 41);
            t.due(x.count(3), 39007);
        }).not(
            Fault.told("comeOutUpTo", -1, 0, n -> n - 1),
            Fault.bent("comeOutUpTo", (m, a) -> m.count(0) == 40 ? m.comeOutUpTo(38000) : m.comeOutUpTo(a[0])));
        holds("BAD_VALUE; NONE if none does", t -> {
            Face x = t.fresh();
            t.due(x.comeOutUpTo(65535), NONE);
            t.due(x.comeOutUpTo(-1), BAD_VALUE);
            t.due(x.comeOutUpTo(65536), BAD_VALUE);
            comeIn(x, 20);
            t.due(x.comeOutUpTo(19), NONE);
            t.due(x.comeOutUpTo(-1), BAD_VALUE);
            t.due(x.count(8), 1);
        }).not(
            Fault.answered("comeOutUpTo", NONE, 0),
            Fault.when("comeOutUpTo", (m, a) -> m.next(1) > a[0] || m.count(0) == 0, NONE),
            Fault.when("comeOutUpTo", (m, a) -> m.count(0) == 0, NONE));
    }

    private void lessTakes() {
        under("Promise 5");
        holds("Makes the key of an entry less. This is an act", t -> {
            Face x = t.fresh();
            comeIn(x, 40, 41);
            t.due(x.less(1, 39), 6);
            t.due(x.entry(1, 0), 39);
            t.due(x.count(8), 3);
            t.due(x.less(1, 3), 2);
            t.due(x.undo(), 3);
            t.due(x.entry(1, 3), 1);
            t.due(x.entry(1, 4), 0);
            t.due(x.undo(), 2);
            t.due(x.entry(1, 0), 41);
            t.due(x.less(1, 41), NONE);
            t.due(x.less(1, 42), NOT_POSSIBLE);
            t.due(x.count(8), 2);
        }).not(
            Fault.bent("less", (m, a) -> unrecorded(m, m.less(a[0], a[1]))),
            Fault.bent("less", (m, a) -> recorded(m, m.less(a[0], a[1]))));
        holds("`entry`: an entry in the piles", t -> {
            Face x = t.fresh();
            comeIn(x, 3, 9, 9, 9);
            x.comeOut();
            x.takeBack(2);
            t.due(x.less(0, 3), UNKNOWN);
            t.due(x.less(2, 3), UNKNOWN);
            for (int entry : NO_ENTRIES) {
                t.due(x.less(entry, 3), UNKNOWN);
            }
            t.due(x.less(3, 3), 0);
            t.due(x.less(1, 8), 4);
        }).not(
            Fault.when("less", (m, a) -> a[0] == 0, NONE),
            Fault.when("less", (m, a) -> a[0] < 0, BAD_VALUE),
            Fault.when("less", (m, a) -> a[0] >= 1000, BAD_VALUE),
            Fault.bent("less", (m, a) -> m.less(a[0] == 4 ? 3 : a[0], a[1])));
        holds("`key`: 0 to 65535", t -> {
            Face x = t.fresh();
            comeIn(x, 65535, 65535, 0);
            for (int key : new int[] {-1, 65536, 131071, MAX, MIN}) {
                t.due(x.less(0, key), BAD_VALUE);
            }
            t.due(x.less(0, 65535), NONE);
            t.due(x.less(0, 65534), 16);
            t.due(x.less(0, 0), 0);
            t.due(x.less(2, 0), NONE);
        }).not(Fault.range("less", 1, 0, 65535, BAD_VALUE));
    }

    private void lessAnswers() {
        holds("Returns the pile to which it belongs then", t -> {
            Face x = t.fresh();
            comeIn(x, 65535, 65535);
            t.due(x.less(0, 32768), 16);
            t.due(x.less(0, 32767), 15);
            t.due(x.less(0, 1), 1);
            t.due(x.less(0, 0), 0);
            x.comeOut();
            t.due(x.less(1, 5), 3);
            comeIn(x, 4);
            x.comeOut();
            t.due(x.less(1, 4), 0);
        }).not(
            Fault.told("less", -1, 0, n -> Math.min(n, 15)),
            Fault.told("less", -1, 0, n -> Math.max(n, 1)),
            Fault.bent("less", (m, a) -> {
                int former = m.entry(a[0], 2);
                return m.less(a[0], a[1]) < 0 ? NONE : former;
            }));
        holds("NOT_POSSIBLE if key is less than the floor", t -> {
            Face x = t.fresh();
            comeIn(x, 50, 90);
            t.due(x.less(1, 49), 6);
            t.due(x.undo(), 2);
            x.comeOut();
            t.due(x.less(1, 49), NOT_POSSIBLE);
            t.due(x.less(1, 0), NOT_POSSIBLE);
            t.due(x.less(1, 50), 0);
            t.due(x.less(1, 49), NOT_POSSIBLE);
        }).not(
            Fault.bent("less", (m, a) -> m.less(a[0], a[1] == m.count(3) - 1 ? a[1] + 1 : a[1])),
            Fault.when("less", (m, a) -> a[1] == m.count(3), NOT_POSSIBLE));
        holds("or greater than its key", t -> {
            Face x = t.fresh();
            comeIn(x, 50, 60);
            t.due(x.less(0, 51), NOT_POSSIBLE);
            t.due(x.less(0, 65535), NOT_POSSIBLE);
            t.due(x.less(0, 50), NONE);
            t.due(x.entry(0, 0), 50);
            t.due(x.less(0, 48), 6);
            t.due(x.less(0, 49), NOT_POSSIBLE);
        }).not(
            Fault.bent("less", (m, a) -> m.less(a[0], Math.min(a[1], m.entry(a[0], 0)))),
            Fault.when("less", (m, a) -> a[1] == m.entry(a[0], 0), NOT_POSSIBLE),
            Fault.bent("less", (m, a) -> {
                if (a[1] == m.entry(a[0], 0) + 1) {
                    m.state.heap.find(a[0]).key = a[1];
                    return m.entry(a[0], 2);
                }
                return m.less(a[0], a[1]);
            }));
        holds("NONE if it is its key", t -> {
            Face x = t.fresh();
            comeIn(x, 0, 65535, 6);
            t.due(x.less(0, 0), NONE);
            t.due(x.less(1, 65535), NONE);
            t.due(x.less(2, 6), NONE);
            t.due(x.count(8), 3);
            t.due(x.less(2, 5), 3);
            t.due(x.less(2, 5), NONE);
            t.due(x.count(4), 0);
        }).not(
            Fault.answered("less", NONE, 0),
            Fault.bent("less", (m, a) -> a[1] == m.entry(a[0], 0) ? m.entry(a[0], 2) : m.less(a[0], a[1])),
            Fault.bent("less", (m, a) -> recorded(m, m.less(a[0], a[1]))));
        holds("UNKNOWN; BAD_VALUE; NOT_POSSIBLE if key is less than the floor, or greater than its key; NONE if it is its key", t -> {
            Face x = t.fresh();
            comeIn(x, 5, 5);
            x.comeOut();
            t.due(x.less(0, -1), UNKNOWN);
            t.due(x.less(0, 65536), UNKNOWN);
            t.due(x.less(0, 4), UNKNOWN);
            t.due(x.less(-1, 4), UNKNOWN);
            t.due(x.less(1, -1), BAD_VALUE);
            t.due(x.less(1, 65536), BAD_VALUE);
            t.due(x.less(1, 4), NOT_POSSIBLE);
            t.due(x.less(1, 6), NOT_POSSIBLE);
            t.due(x.less(1, 5), NONE);
        }).not(
            Fault.when("less", (m, a) -> a[1] < 0 || a[1] > 65535, BAD_VALUE),
            Fault.when("less", (m, a) -> a[1] < m.count(3), NOT_POSSIBLE),
            Fault.when("less", (m, a) -> m.entry(a[0], 0) >= 0 && a[1] < m.count(3), NOT_POSSIBLE),
            Fault.when("less", (m, a) -> m.entry(a[0], 0) >= 0 && a[1] > m.entry(a[0], 0), NOT_POSSIBLE));
    }

    private void takeBackAnswers() {
        under("Promise 6");
        holds("Takes an entry back. This is an act", t -> {
            Face x = t.fresh();
            comeIn(x, 6, 7);
            t.due(x.takeBack(0), 6);
            t.due(x.count(8), 3);
            t.due(x.count(7), 1);
            t.due(x.undo(), 2);
            t.due(x.entry(0, 3), 0);
            t.due(x.count(7), 0);
            t.due(x.takeBack(2), UNKNOWN);
            t.due(x.count(8), 2);
            Face y = t.fresh();
            comeIn(y, 20, 24, 100, 25);
            y.comeOut();
            t.due(y.entry(2, 4), 0);
            t.due(y.takeBack(1), 24);
            t.due(y.entry(2, 0), 100);
            t.due(y.entry(2, 4), 0);
            t.due(y.entry(3, 2), 4);
            t.due(y.entry(3, 3), 0);
            t.due(y.entry(3, 4), 1);
            t.due(y.count(4), 3);
        }).not(
            Fault.bent("takeBack", (m, a) -> {
                int key = m.takeBack(a[0]);
                Model.Entry other = m.state.heap.find(3);
                if (other != null) {
                    other.moves = 0;
                }
                return key;
            }),
            Fault.bent("takeBack", (m, a) -> unrecorded(m, m.takeBack(a[0]))),
            Fault.bent("takeBack", (m, a) -> recorded(m, m.takeBack(a[0]))));
        holds("`entry`: an entry in the piles", t -> {
            Face x = t.fresh();
            comeIn(x, 3, 9, 9, 9);
            t.due(x.comeOut(), 0);
            t.due(x.takeBack(0), UNKNOWN);
            t.due(x.takeBack(2), 9);
            t.due(x.takeBack(2), UNKNOWN);
            for (int entry : NO_ENTRIES) {
                t.due(x.takeBack(entry), UNKNOWN);
            }
            t.due(x.count(7), 1);
            t.due(x.takeBack(3), 9);
            t.due(x.takeBack(1), 9);
            t.due(x.count(0), 0);
        }).not(
            Fault.when("takeBack", (m, a) -> a[0] == 0, NONE),
            Fault.when("takeBack", (m, a) -> a[0] < 0, BAD_VALUE),
            Fault.when("takeBack", (m, a) -> a[0] >= 1000, BAD_VALUE),
            Fault.bent("takeBack", (m, a) -> m.takeBack(a[0] == 4 ? 3 : a[0])));
        holds("Returns its key; UNKNOWN", t -> {
            Face x = t.fresh();
            t.due(x.takeBack(0), UNKNOWN);
            comeIn(x, 0, 65535, 8);
            t.due(x.less(2, 7), 3);
            t.due(x.takeBack(0), 0);
            t.due(x.takeBack(1), 65535);
            t.due(x.takeBack(2), 7);
            t.due(x.takeBack(2), UNKNOWN);
            t.due(x.count(0), 0);
        }).not(
            Fault.answered("takeBack", UNKNOWN, NONE),
            Fault.answered("takeBack", 0, NONE),
            Fault.answered("takeBack", 65535, -1),
            Fault.answered("takeBack", 7, 8));
    }
}

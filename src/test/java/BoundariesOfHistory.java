import java.util.function.ToIntFunction;

/** The sentences on the history and the snapshot, in the Terms and in promises 13 to 15, that name boundary cases. */
final class BoundariesOfHistory extends Boundaries {
    BoundariesOfHistory() {
        under("Terms");
        history();
        acts();
        snapshot();
        state();
        undoAnswers();
        keepAnswers();
        restoreAnswers();
    }

    private void history() {
        holds("A history of at most 4 states is kept", t -> {
            Face x = t.fresh();
            t.due(x.count(8), 0);
            for (int i = 1; i <= 7; i++) {
                t.due(x.comeIn(i, 0), i - 1);
                t.due(x.count(8), Math.min(i, 4));
            }
            for (int left = 3; left >= 0; left--) {
                t.due(x.undo(), left);
            }
            t.due(x.undo(), NONE);
        }).not(
            Fault.altered(m -> m.mostStates = 3),
            Fault.altered(m -> m.mostStates = 5),
            Fault.altered(m -> m.history.add(m.state.copy())));
        holds("when one more is recorded, the oldest one is dropped", t -> {
            Face x = t.fresh();
            comeIn(x, 1, 2, 3, 4, 5, 6);
            t.due(x.undo(), 3);
            t.due(x.count(0), 5);
            t.due(x.undo(), 2);
            t.due(x.undo(), 1);
            t.due(x.undo(), 0);
            t.due(x.count(0), 2);
            t.due(x.undo(), NONE);
            t.due(x.count(0), 2);
            t.due(x.comeIn(7, 0), 2);
            t.due(x.count(8), 1);
            comeIn(x, 8, 9, 10, 11);
            t.due(x.undo(), 3);
            t.due(x.count(0), 6);
        }).not(
            Fault.bent("comeIn", (m, a) -> {
                if (m.history.size() == 4) {
                    m.history.remove(3);
                }
                return m.comeIn(a[0], a[1]);
            }),
            Fault.bent("comeIn", (m, a) -> {
                if (m.history.size() == 4) {
                    m.history.clear();
                }
                return m.comeIn(a[0], a[1]);
            }),
            Fault.bent("comeIn", (m, a) -> {
                int answer = m.comeIn(a[0], a[1]);
                return m.history.size() == 4 && m.count(1) == 5 ? unrecorded(m, answer) : answer;
            }));
        holds("undo() removes and restores the latest one", t -> {
            Face x = t.fresh();
            comeIn(x, 1, 2);
            x.road(0, 1, 1);
            t.due(x.undo(), 2);
            t.due(x.roadOf(0, 1), NONE);
            t.due(x.count(0), 2);
            t.due(x.undo(), 1);
            t.due(x.count(0), 1);
            t.due(x.entry(0, 0), 1);
            t.due(x.undo(), 0);
            t.due(x.count(0), 0);
            t.due(x.undo(), NONE);
        }).not(
            Fault.bent("undo", (m, a) -> {
                m.state = m.history.isEmpty() ? m.state : m.history.remove(0);
                return m.count(0) == 0 && m.history.isEmpty() ? NONE : m.history.size();
            }),
            Fault.bent("undo", (m, a) -> {
                if (m.history.size() > 1) {
                    m.state = m.history.get(m.history.size() - 1).copy();
                    return m.history.size() - 1;
                }
                return m.undo();
            }));
    }

    /** What an act is put to: entries 0 to 3, of which 0 came out; a road; a snapshot; a text that is sound. */
    private static Face prepared(Trial t) {
        Face x = t.fresh();
        write(x, "+99");
        comeIn(x, 20, 30, 40, 50);
        x.road(0, 1, 5);
        x.comeOut();
        x.keep();
        return x;
    }

    private static void recordedOne(Trial t, ToIntFunction<Face> act) {
        Face x = prepared(t);
        act.applyAsInt(x);
        t.due(x.undo(), 3);
        t.same("what undo() brings back", picture(x), picture(prepared(t)));
    }

    private static void recordedNone(Trial t, ToIntFunction<Face> call) {
        Face x = t.fresh();
        comeIn(x, 20, 30, 40);
        call.applyAsInt(x);
        t.due(x.count(8), 3);
        t.due(x.undo(), 2);
        t.due(x.count(0), 2);
    }

    private void acts() {
        holds("Each call of a method that is described as an act, and returns no error and not NONE, records the state that was before"
            + " it", t -> {
            recordedOne(t, x -> x.comeIn(70, 1));
            recordedOne(t, Face::comeOut);
            recordedOne(t, x -> x.comeOutUpTo(40));
            recordedOne(t, x -> x.less(3, 45));
            recordedOne(t, x -> x.takeBack(2));
            recordedOne(t, x -> x.road(0, 1, 6));
            recordedOne(t, x -> x.unroad(0, 1));
            recordedOne(t, Face::perform);
            recordedOne(t, Face::restore);
            recordedNone(t, x -> x.comeIn(-1, 0));
            recordedNone(t, x -> x.comeOutUpTo(19));
            recordedNone(t, x -> x.comeOutUpTo(65536));
            recordedNone(t, x -> x.less(0, 20));
            recordedNone(t, x -> x.less(0, 21));
            recordedNone(t, x -> x.takeBack(3));
            recordedNone(t, x -> x.road(0, 0, 6));
            recordedNone(t, x -> x.unroad(0, 1));
            recordedNone(t, Face::perform);
            recordedNone(t, Face::restore);
            recordedNone(t, x -> x.type('a'));
            recordedNone(t, Face::clearText);
            recordedNone(t, Face::keep);
            recordedNone(t, x -> x.next(0));
            recordedNone(t, x -> x.ranked(0));
            recordedNone(t, x -> x.search(0, 0));
            recordedNone(t, x -> x.distance(0, 0));
        }).not(
            Fault.bent("comeIn", (m, a) -> unrecorded(m, m.comeIn(a[0], a[1]))),
            Fault.bent("comeOut", (m, a) -> unrecorded(m, m.comeOut())),
            Fault.bent("comeOutUpTo", (m, a) -> unrecorded(m, m.comeOutUpTo(a[0]))),
            Fault.bent("less", (m, a) -> unrecorded(m, m.less(a[0], a[1]))),
            Fault.bent("takeBack", (m, a) -> unrecorded(m, m.takeBack(a[0]))),
            Fault.bent("road", (m, a) -> a[2] == 6 ? unrecorded(m, m.road(a[0], a[1], a[2])) : m.road(a[0], a[1], a[2])),
            Fault.bent("unroad", (m, a) -> unrecorded(m, m.unroad(a[0], a[1]))),
            Fault.bent("perform", (m, a) -> unrecorded(m, m.perform())),
            Fault.bent("restore", (m, a) -> unrecorded(m, m.restore())),
            Fault.bent("comeIn", (m, a) -> recorded(m, m.comeIn(a[0], a[1]))),
            Fault.bent("comeOutUpTo", (m, a) -> recorded(m, m.comeOutUpTo(a[0]))),
            Fault.bent("less", (m, a) -> recorded(m, m.less(a[0], a[1]))),
            Fault.bent("takeBack", (m, a) -> recorded(m, m.takeBack(a[0]))),
            Fault.bent("road", (m, a) -> recorded(m, m.road(a[0], a[1], a[2]))),
            Fault.bent("unroad", (m, a) -> recorded(m, m.unroad(a[0], a[1]))),
            Fault.bent("perform", (m, a) -> recorded(m, m.perform())),
            Fault.bent("restore", (m, a) -> recorded(m, m.restore())),
            Fault.bent("keep", (m, a) -> m.keep() + 0 * recorded(m, NONE)),
            Fault.bent("type", (m, a) -> m.type((char) a[0]) + 0 * recorded(m, NONE)));
    }

    private void snapshot() {
        holds("There is one snapshot, empty at first", t -> {
            Face x = t.fresh();
            t.due(x.restore(), NONE);
            comeIn(x, 5);
            t.due(x.restore(), NONE);
            t.due(x.count(0), 1);
            t.due(x.keep(), 1);
            comeIn(x, 6, 7);
            t.due(x.keep(), 3);
            x.comeOut();
            t.due(x.restore(), 3);
            t.due(x.restore(), 3);
            t.due(x.undo(), 3);
        }).not(
            Fault.altered(Model::keep),
            Fault.answered("restore", NONE, 0),
            Fault.bent("keep", (m, a) -> m.snapshot == null ? m.keep() : m.count(0)),
            Fault.bent("restore", (m, a) -> {
                int answer = m.restore();
                m.snapshot = null;
                return answer;
            }));
    }

    private void state() {
        holds("A state is everything but the text, the history, the snapshot and the latest refusal", t -> {
            Face x = t.fresh();
            comeIn(x, 20, 30, 40, 40);
            x.takeBack(3);
            x.road(0, 1, 5);
            x.comeOut();
            x.keep();
            t.due(x.count(9), 0);
            t.due(performed(x, "-,x9"), NOT_POSSIBLE);
            write(x, "+41:7,-,x2,+50,+60");
            t.due(x.perform(), 5);
            t.due(x.undo(), 3);
            Face y = t.fresh();
            comeIn(y, 20, 30, 40, 40);
            y.takeBack(3);
            y.road(0, 1, 5);
            y.comeOut();
            write(y, "+41:7,-,x2,+50,+60");
            t.same("what undo() brings back", picture(x), picture(y));
            t.due(x.count(9), 18);
            t.due(x.refusal(0), 1);
            t.due(x.refusal(1), UNKNOWN);
            t.due(x.comeOut(), 1);
            t.due(x.road(0, 2, 1), 2);
            t.due(x.unroad(0, 1), 5);
            t.due(x.restore(), 2);
            t.due(x.count(8), 4);
            x.comeIn(99, 0);
            y.comeIn(99, 0);
            t.same("what restore() brings back", picture(x), picture(y));
            t.due(x.refusal(0), 1);
            t.due(x.clearText(), 18);
            t.due(x.undo(), 3);
            t.due(x.undo(), 2);
            t.due(x.roadOf(0, 1), NONE);
            t.due(x.restore(), 2);
        }).not(
            state("undo", (m, former) -> m.state.roads = former.roads),
            state("undo", (m, former) -> m.state.out = former.out),
            state("undo", (m, former) -> m.state.cameIn = former.cameIn),
            state("undo", (m, former) -> m.state.takenBack = former.takenBack),
            state("undo", (m, former) -> m.state.heap = former.heap),
            state("undo", (m, former) -> m.state.heap.floor = former.heap.floor),
            state("undo", (m, former) -> m.state.heap.moves = former.heap.moves),
            state("undo", (m, former) -> m.text = ""),
            state("undo", (m, former) -> m.refusedError = 0),
            state("undo", (m, former) -> m.snapshot = null),
            state("restore", (m, former) -> m.state.roads = former.roads),
            state("restore", (m, former) -> m.state.out = former.out),
            state("restore", (m, former) -> m.state.heap = former.heap),
            state("restore", (m, former) -> m.state.heap.floor = former.heap.floor),
            state("restore", (m, former) -> m.state.heap.moves = former.heap.moves),
            state("restore", (m, former) -> m.text = ""),
            state("restore", (m, former) -> m.refusedError = 0),
            state("restore", (m, former) -> m.history.clear()),
            state("restore", (m, former) -> m.snapshot = null));
    }

    interface Spoil {
        void spoil(Model model, Model.State former);
    }

    /** Brings a state back, but not as it should: something is left as it was, or brought back that is no part of it. */
    private static Fault state(String method, Spoil spoil) {
        return Fault.bent(method, (m, a) -> {
            Model.State former = m.state.copy();
            int answer = Fault.call(m, method, a);
            if (answer >= 0) {
                spoil.spoil(m, former);
            }
            return answer;
        });
    }

    private void undoAnswers() {
        under("Promise 13");
        holds("Removes and restores the latest state of the history", t -> {
            Face x = t.fresh();
            comeIn(x, 9);
            t.due(x.undo(), 0);
            t.due(x.count(1), 0);
            t.due(x.next(0), NONE);
            t.due(x.undo(), NONE);
            comeIn(x, 8, 7);
            x.comeOutUpTo(8);
            t.due(x.undo(), 2);
            t.due(x.pile(4, 0), 1);
            t.due(x.pile(3, 3), 1);
            t.due(x.out(0, 0), NONE);
            t.due(x.undo(), 1);
            t.due(x.comeIn(6, 0), 1);
            t.due(x.count(8), 2);
        }).not(
            Fault.bent("undo", (m, a) -> {
                int left = m.undo();
                m.state.cameIn += left == 0 ? 1 : 0;
                return left;
            }),
            Fault.bent("undo", (m, a) -> {
                m.history.add(m.state.copy());
                return m.undo();
            }),
            state("undo", (m, former) -> m.state.out = former.out));
        holds("Returns the number of states that are left; NONE if the history is empty", t -> {
            Face x = t.fresh();
            t.due(x.undo(), NONE);
            t.due(x.undo(), NONE);
            comeIn(x, 1, 1, 1, 1, 1);
            t.due(x.undo(), 3);
            t.due(x.undo(), 2);
            t.due(x.undo(), 1);
            t.due(x.undo(), 0);
            t.due(x.undo(), NONE);
            t.due(x.count(0), 1);
            comeIn(x, 1);
            t.due(x.undo(), 0);
            t.due(x.undo(), NONE);
        }).not(
            Fault.answered("undo", NONE, 0),
            Fault.answered("undo", 0, NONE),
            Fault.told("undo", -1, 0, n -> n + 1),
            Fault.bent("undo", (m, a) -> {
                m.state = m.history.isEmpty() ? new Model().state : m.state;
                return m.undo();
            }));
    }

    private void keepAnswers() {
        under("Promise 14");
        holds("Takes a snapshot of the state, in place of the one that was", t -> {
            Face x = t.fresh();
            t.due(x.keep(), 0);
            comeIn(x, 3, 4);
            t.due(x.keep(), 2);
            x.comeOut();
            t.due(x.restore(), 2);
            t.due(x.entry(0, 0), 3);
            comeIn(x, 5);
            x.less(2, 4);
            t.due(x.restore(), 2);
            t.due(x.entry(2, 0), UNKNOWN);
            t.due(x.undo(), 3);
            t.due(x.entry(2, 0), 4);
            t.due(x.keep(), 3);
            t.due(x.undo(), 2);
            t.due(x.restore(), 3);
            t.due(x.entry(2, 0), 4);
        }).not(
            Fault.bent("keep", (m, a) -> m.snapshot == null ? m.keep() : m.count(0)),
            Fault.bent("keep", (m, a) -> {
                m.snapshot = m.state;
                return m.count(0);
            }),
            Fault.bent("undo", (m, a) -> {
                m.snapshot = null;
                return m.undo();
            }));
        holds("Returns how many entries are in the piles", t -> {
            Face x = t.fresh();
            t.due(x.keep(), 0);
            for (int i = 1; i <= 40; i++) {
                x.comeIn(i, 0);
                t.due(x.keep(), i);
            }
            x.comeOutUpTo(20);
            t.due(x.keep(), 20);
            x.takeBack(30);
            t.due(x.keep(), 19);
            x.comeOutUpTo(65535);
            t.due(x.keep(), 0);
        }).not(
            Fault.answered("keep", 0, NONE),
            Fault.bent("keep", (m, a) -> m.keep() + m.count(2)),
            Fault.answered("keep", 40, FULL));
    }

    private void restoreAnswers() {
        under("Promise 15");
        holds("Restores the state of the snapshot, which stays. This is an act", t -> {
            Face x = t.fresh();
            t.due(x.keep(), 0);
            comeIn(x, 5);
            t.due(x.restore(), 0);
            t.due(x.count(8), 2);
            t.due(x.count(1), 0);
            t.due(x.comeIn(6, 0), 0);
            t.due(x.restore(), 0);
            t.due(x.restore(), 0);
            t.due(x.count(8), 4);
            t.due(x.undo(), 3);
            t.due(x.undo(), 2);
            t.due(x.entry(0, 0), 6);
            t.due(x.undo(), 1);
            t.due(x.undo(), 0);
            t.due(x.entry(0, 0), 5);
            t.due(x.restore(), 0);
        }).not(
            Fault.bent("restore", (m, a) -> unrecorded(m, m.restore())),
            Fault.bent("restore", (m, a) -> {
                Model.State kept = m.snapshot;
                m.snapshot = null;
                m.state = kept == null ? m.state : kept;
                return kept == null ? NONE : m.count(0);
            }),
            Fault.bent("restore", (m, a) -> {
                int answer = m.restore();
                m.snapshot = m.state;
                return answer;
            }));
        holds("Returns how many entries are in the piles then; NONE if there is no snapshot", t -> {
            Face x = t.fresh();
            t.due(x.restore(), NONE);
            t.due(x.count(8), 0);
            comeIn(x, 5);
            t.due(x.restore(), NONE);
            t.due(x.count(0), 1);
            t.due(x.count(8), 1);
            t.due(x.undo(), 0);
            t.due(x.keep(), 0);
            t.due(x.restore(), 0);
            for (int i = 0; i < 40; i++) {
                x.comeIn(9, 0);
            }
            t.due(x.keep(), 40);
            x.comeOutUpTo(9);
            t.due(x.restore(), 40);
            t.due(x.comeIn(9, 0), FULL);
        }).not(
            Fault.answered("restore", NONE, 0),
            Fault.answered("restore", 0, NONE),
            Fault.bent("restore", (m, a) -> recorded(m, m.restore())),
            Fault.bent("restore", (m, a) -> {
                int former = m.count(0);
                return m.restore() < 0 ? NONE : former;
            }));
    }
}

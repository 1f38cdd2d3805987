import java.util.function.Consumer;
import java.util.function.ToIntFunction;

/** The Terms' sentences on errors and on NONE. */
final class BoundariesOfErrors extends Boundaries {
    BoundariesOfErrors() {
        under("Terms");
        order();
        none();
        changesNothing();
        unknown();
        badValue();
        full();
        notPossible();
        noSuchThing();
    }

    private void order() {
        holds("Where several errors can apply, the order of the @return line is the order of the checks", t -> {
            Face x = t.fresh();
            comeIn(x, 9);
            x.comeOut();
            for (int i = 0; i < 40; i++) {
                x.comeIn(9, 0);
            }
            layForty(x);
            t.due(x.comeIn(8, 1000), BAD_VALUE);
            t.due(x.comeIn(9, 1000), BAD_VALUE);
            t.due(x.comeIn(8, 0), NOT_POSSIBLE);
            t.due(x.less(0, -1), UNKNOWN);
            t.due(x.less(0, 8), UNKNOWN);
            t.due(x.less(1, -1), BAD_VALUE);
            t.due(x.less(1, 65536), BAD_VALUE);
            t.due(x.road(12, 12, 0), UNKNOWN);
            t.due(x.road(0, 12, -1), UNKNOWN);
            t.due(x.road(10, 10, 0), BAD_VALUE);
            t.due(x.road(10, 9, -1), BAD_VALUE);
            t.due(x.entry(0, 5), UNKNOWN);
            t.due(x.entry(-1, -1), UNKNOWN);
            t.due(x.pile(17, 4), UNKNOWN);
            t.due(x.pile(-1, -1), UNKNOWN);
            t.due(x.search(12, 4), UNKNOWN);
            t.due(x.search(-1, -1), UNKNOWN);
        }).not(
            Fault.when("comeIn", (m, a) -> a[0] < m.count(3), NOT_POSSIBLE),
            Fault.when("comeIn", (m, a) -> m.count(0) == 40, FULL),
            Fault.when("comeIn", (m, a) -> m.count(0) == 40 && (a[0] >= m.count(3) || a[1] < 1000), FULL),
            Fault.when("less", (m, a) -> a[1] < 0, BAD_VALUE),
            Fault.when("less", (m, a) -> a[1] < m.count(3), NOT_POSSIBLE),
            Fault.when("less", (m, a) -> m.entry(a[0], 0) >= 0 && a[1] > m.entry(a[0], 0), NOT_POSSIBLE),
            Fault.when("road", (m, a) -> a[0] == a[1], BAD_VALUE),
            Fault.when("road", (m, a) -> a[2] < 0, BAD_VALUE),
            Fault.when("road", (m, a) -> m.roadOf(a[0], a[1]) == NONE && m.count(6) == 40, FULL),
            Fault.when("entry", (m, a) -> a[1] < 0 || a[1] > 4, BAD_VALUE),
            Fault.when("pile", (m, a) -> a[1] < 0 || a[1] > 3, BAD_VALUE),
            Fault.when("search", (m, a) -> a[1] < 0 || a[1] > 3, BAD_VALUE));
    }

    private void none() {
        holds("NONE is no error; it is returned only if no error applies", t -> {
            Face x = t.fresh();
            t.due(x.comeOutUpTo(-1), BAD_VALUE);
            t.due(x.comeOutUpTo(65536), BAD_VALUE);
            t.due(x.refusal(-1), BAD_VALUE);
            t.due(x.refusal(2), BAD_VALUE);
            t.due(x.pile(0, 4), BAD_VALUE);
            t.due(x.pile(16, -1), BAD_VALUE);
            t.due(x.pile(17, 1), UNKNOWN);
            t.due(x.next(-1), BAD_VALUE);
            t.due(x.next(3), BAD_VALUE);
            t.due(x.ranked(-1), BAD_VALUE);
            t.due(x.out(0, -1), BAD_VALUE);
            t.due(x.out(0, 4), BAD_VALUE);
            t.due(x.out(-1, 0), BAD_VALUE);
            t.due(x.out(8, 4), BAD_VALUE);
            t.due(x.roadOf(0, 12), UNKNOWN);
            t.due(x.roadOf(-1, 0), UNKNOWN);
            t.due(x.distance(12, 0), UNKNOWN);
            t.due(x.distance(0, -1), UNKNOWN);
            t.due(performed(x, "-,-,<0=1"), NOT_POSSIBLE);
            t.due(performed(x, "-,-"), 2);
            t.due(x.refusal(0), 2);
        }).not(
            Fault.when("comeOutUpTo", (m, a) -> m.count(0) == 0, NONE),
            Fault.when("refusal", (m, a) -> m.refusedError == 0, NONE),
            Fault.when("pile", (m, a) -> a[1] != 0, NONE),
            Fault.when("next", (m, a) -> m.count(0) == 0, NONE),
            Fault.when("ranked", (m, a) -> m.count(0) == 0, NONE),
            Fault.when("out", (m, a) -> m.count(2) == 0, NONE),
            Fault.when("out", (m, a) -> a[0] >= 8, NONE),
            Fault.when("roadOf", (m, a) -> m.count(6) == 0, NONE),
            Fault.when("distance", (m, a) -> m.count(6) == 0 && a[0] != a[1], NONE),
            Fault.flawed(Model.Flaw.PERFORM_REFUSES_NONE));
    }

    /** Two objects alike, one of which answers a call with an error or NONE: neither then nor later are they unlike. */
    private static void unchanged(Trial t, int answer, ToIntFunction<Face> call) {
        Face y = likely(t);
        Face x = likely(t);
        t.due(call.applyAsInt(x), answer);
        t.same("after an error or NONE", picture(x), picture(y));
        t.due(x.count(8), 4);
        t.due(x.undo(), y.undo());
        t.same("after undo()", picture(x), picture(y));
        t.due(x.restore(), y.restore());
        t.same("after restore()", picture(x), picture(y));
    }

    private static Face likely(Trial t) {
        Face x = t.fresh();
        write(x, "+50,-,x9");
        comeIn(x, 20, 30, 31, 50, 60);
        x.road(0, 1, 5);
        x.comeOut();
        x.keep();
        x.takeBack(3);
        return x;
    }

    private void changesNothing() {
        holds("A call that returns an error or NONE changes nothing (but for the latest refusal of perform())", t -> {
            unchanged(t, BAD_VALUE, x -> x.comeIn(65536, 0));
            unchanged(t, BAD_VALUE, x -> x.comeIn(20, 1000));
            unchanged(t, NOT_POSSIBLE, x -> x.comeIn(19, 0));
            unchanged(t, BAD_VALUE, x -> x.comeOutUpTo(-1));
            unchanged(t, NONE, x -> x.comeOutUpTo(29));
            unchanged(t, UNKNOWN, x -> x.less(3, 20));
            unchanged(t, BAD_VALUE, x -> x.less(1, -1));
            unchanged(t, NOT_POSSIBLE, x -> x.less(1, 19));
            unchanged(t, NOT_POSSIBLE, x -> x.less(1, 31));
            unchanged(t, NONE, x -> x.less(1, 30));
            unchanged(t, UNKNOWN, x -> x.takeBack(3));
            unchanged(t, UNKNOWN, x -> x.road(0, 12, 1));
            unchanged(t, BAD_VALUE, x -> x.road(0, 1, 1000));
            unchanged(t, NONE, x -> x.road(0, 1, 5));
            unchanged(t, UNKNOWN, x -> x.unroad(1, 0));
            unchanged(t, NOT_POSSIBLE, Face::perform);
            unchanged(t, UNKNOWN, x -> x.entry(3, 0));
            unchanged(t, NONE, x -> x.pile(1, 1));
            unchanged(t, BAD_VALUE, x -> x.next(3));
            unchanged(t, NONE, x -> x.ranked(5));
            unchanged(t, NONE, x -> x.distance(1, 0));
            unchanged(t, BAD_VALUE, x -> x.search(0, 4));
            unchanged(t, BAD_VALUE, x -> x.refusal(2));
            Face x = likely(t);
            t.due(x.perform(), NOT_POSSIBLE);
            t.due(x.refusal(0), 2);
            t.due(x.type('?'), 9);
            t.due(x.perform(), -108);
            t.due(x.refusal(0), 2);
            Face empty = t.fresh();
            t.due(empty.comeOut(), NONE);
            t.due(empty.undo(), NONE);
            t.due(empty.restore(), NONE);
            t.due(empty.perform(), -100);
            t.due(empty.count(8), 0);
            t.due(empty.count(2), 0);
        }).not(
            changing("comeIn", m -> m.state.cameIn++),
            changing("comeOut", m -> m.history.add(m.state.copy())),
            changing("comeOutUpTo", m -> m.state.heap.bringUp()),
            changing("less", m -> m.history.add(m.state.copy())),
            changing("less", m -> m.state.heap.moves++),
            changing("takeBack", m -> m.state.takenBack++),
            changing("road", m -> m.state.roads[0][1] = 6),
            changing("road", m -> m.history.remove(0)),
            changing("unroad", m -> m.state.roads[0][1] = NONE),
            changing("perform", m -> m.text = ""),
            changing("perform", m -> m.history.add(m.state.copy())),
            changing("undo", m -> m.history.add(m.state.copy())),
            changing("restore", m -> m.history.add(m.state.copy())),
            changing("ranked", Model::comeOut),
            changing("refusal", Model::undo),
            changing("search", Model::keep),
            Fault.flawed(Model.Flaw.PERFORM_LEAVES_WHAT_IS_DONE));
    }

    /** Answers as due, but changes something when the answer is an error or NONE. */
    private static Fault changing(String method, Consumer<Model> change) {
        return Fault.bent(method, (m, a) -> {
            int answer = Fault.call(m, method, a);
            if (answer < 0) {
                change.accept(m);
            }
            return answer;
        });
    }

    private void unknown() {
        holds("`UNKNOWN = -1`: There is no such entry in the piles, pile, town or road", t -> {
            Face x = t.fresh();
            t.due(x.less(0, 0), UNKNOWN);
            t.due(x.takeBack(0), UNKNOWN);
            t.due(x.entry(0, 0), UNKNOWN);
            t.due(x.pile(17, 0), UNKNOWN);
            t.due(x.pile(-1, 0), UNKNOWN);
            t.due(x.road(12, 0, 0), UNKNOWN);
            t.due(x.unroad(12, 0), UNKNOWN);
            t.due(x.unroad(0, 1), UNKNOWN);
            t.due(x.roadOf(0, 12), UNKNOWN);
            t.due(x.distance(0, 12), UNKNOWN);
            t.due(x.search(12, 0), UNKNOWN);
        }).not(
            Fault.answered("less", UNKNOWN, NONE),
            Fault.answered("takeBack", UNKNOWN, NONE),
            Fault.answered("entry", UNKNOWN, NONE),
            Fault.answered("pile", UNKNOWN, BAD_VALUE),
            Fault.answered("road", UNKNOWN, BAD_VALUE),
            Fault.answered("unroad", UNKNOWN, NONE),
            Fault.answered("roadOf", UNKNOWN, BAD_VALUE),
            Fault.answered("distance", UNKNOWN, BAD_VALUE),
            Fault.answered("search", UNKNOWN, BAD_VALUE));
    }

    private void badValue() {
        holds("`BAD_VALUE = -2`: Another argument is out of range", t -> {
            Face x = t.fresh();
            comeIn(x, 9);
            t.due(x.comeIn(65536, 0), BAD_VALUE);
            t.due(x.comeIn(0, 1000), BAD_VALUE);
            t.due(x.comeOutUpTo(65536), BAD_VALUE);
            t.due(x.less(0, 65536), BAD_VALUE);
            t.due(x.road(0, 1, 1000), BAD_VALUE);
            t.due(x.road(1, 1, 0), BAD_VALUE);
            t.due(x.refusal(2), BAD_VALUE);
            t.due(x.entry(0, 5), BAD_VALUE);
            t.due(x.pile(0, 4), BAD_VALUE);
            t.due(x.next(3), BAD_VALUE);
            t.due(x.ranked(-1), BAD_VALUE);
            t.due(x.out(-1, 0), BAD_VALUE);
            t.due(x.out(0, 4), BAD_VALUE);
            t.due(x.search(0, 4), BAD_VALUE);
            t.due(x.count(10), BAD_VALUE);
        }).not(
            Fault.answered("comeIn", BAD_VALUE, NOT_POSSIBLE),
            Fault.answered("comeOutUpTo", BAD_VALUE, NONE),
            Fault.answered("less", BAD_VALUE, NOT_POSSIBLE),
            Fault.answered("road", BAD_VALUE, UNKNOWN),
            Fault.answered("refusal", BAD_VALUE, NONE),
            Fault.answered("entry", BAD_VALUE, UNKNOWN),
            Fault.answered("pile", BAD_VALUE, UNKNOWN),
            Fault.answered("next", BAD_VALUE, NONE),
            Fault.answered("ranked", BAD_VALUE, NONE),
            Fault.answered("out", BAD_VALUE, NONE),
            Fault.answered("search", BAD_VALUE, UNKNOWN),
            Fault.answered("count", BAD_VALUE, UNKNOWN));
    }

    private void full() {
        holds("`FULL = -3`: There is no more room", t -> {
            Face x = t.fresh();
            for (int i = 0; i < 40; i++) {
                x.comeIn(0, 0);
            }
            t.due(x.comeIn(0, 0), FULL);
            layForty(x);
            t.due(x.road(10, 0, 0), FULL);
            write(x, "+0,+0,+0,+0,+0,+0,+0,+0,+0,+0,+0,+0,+0,+0,+0,+0,+0,+0,+0,+0,");
            t.due(x.type('-'), FULL);
        }).not(
            Fault.answered("comeIn", FULL, NOT_POSSIBLE),
            Fault.answered("road", FULL, NOT_POSSIBLE),
            Fault.answered("type", FULL, 60));
    }

    private void notPossible() {
        holds("`NOT_POSSIBLE = -4`: This is not possible (a key is less than the floor)", t -> {
            Face x = t.fresh();
            comeIn(x, 5, 6);
            x.comeOut();
            t.due(x.comeIn(4, 0), NOT_POSSIBLE);
            t.due(x.less(1, 4), NOT_POSSIBLE);
            t.due(performed(x, "+4"), NOT_POSSIBLE);
            t.due(x.comeIn(5, 0), 2);
        }).not(
            Fault.answered("comeIn", NOT_POSSIBLE, BAD_VALUE),
            Fault.answered("less", NOT_POSSIBLE, BAD_VALUE),
            Fault.answered("perform", NOT_POSSIBLE, UNKNOWN));
    }

    private void noSuchThing() {
        holds("`NONE = -5`: There is no such thing; not an error", t -> {
            Face x = t.fresh();
            t.due(x.comeOut(), NONE);
            t.due(x.comeOutUpTo(0), NONE);
            t.due(x.refusal(0), NONE);
            t.due(x.undo(), NONE);
            t.due(x.restore(), NONE);
            t.due(x.pile(0, 1), NONE);
            t.due(x.next(0), NONE);
            t.due(x.ranked(0), NONE);
            t.due(x.out(0, 0), NONE);
            t.due(x.roadOf(0, 1), NONE);
            t.due(x.distance(0, 1), NONE);
            t.due(performed(x, "-"), 1);
            t.due(x.refusal(1), NONE);
        }).not(
            Fault.answered("comeOut", NONE, UNKNOWN),
            Fault.answered("comeOutUpTo", NONE, 0),
            Fault.answered("refusal", NONE, 0),
            Fault.answered("undo", NONE, NOT_POSSIBLE),
            Fault.answered("restore", NONE, NOT_POSSIBLE),
            Fault.answered("pile", NONE, 0),
            Fault.answered("next", NONE, UNKNOWN),
            Fault.answered("ranked", NONE, UNKNOWN),
            Fault.answered("out", NONE, UNKNOWN),
            Fault.answered("roadOf", NONE, UNKNOWN),
            Fault.answered("distance", NONE, UNKNOWN),
            Fault.flawed(Model.Flaw.PERFORM_REFUSES_NONE));
    }
}

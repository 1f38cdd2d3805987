/** The sentences on towns and roads, in the Terms and in promises 7, 8 and 22 to 24, that name boundary cases. */
final class BoundariesOfRoads extends Boundaries {
    private static final int[] NO_TOWNS = {-1, 12, 13, 23, 24, -12, 144, MAX, MIN};

    BoundariesOfRoads() {
        under("Terms");
        towns();
        roads();
        lengths();
        ownPiles();
        searching();
        longest();
        roadTakes();
        roadAnswers();
        unroadAnswers();
        roadOfAnswers();
        distanceAnswers();
        searchAnswers();
    }

    private void towns() {
        holds("There are 12 towns, numbered from 0", t -> {
            Face x = t.fresh();
            t.due(x.road(0, 11, 3), 1);
            t.due(x.road(11, 0, 4), 2);
            t.due(x.distance(0, 11), 3);
            t.due(x.distance(11, 0), 4);
            t.due(x.distance(12, 0), UNKNOWN);
            t.due(x.distance(-1, 0), UNKNOWN);
            t.due(x.road(12, 0, 1), UNKNOWN);
            t.due(x.road(0, 12, 1), UNKNOWN);
            t.due(x.road(-1, 11, 1), UNKNOWN);
        }).not(Fault.range("distance", 0, 0, 11, UNKNOWN))
            .not(
                Fault.bent("road", (m, a) -> m.road(a[0], Math.min(a[1], 11), a[2])),
                Fault.bent("road", (m, a) -> m.road(Math.max(a[0], 0), a[1], a[2])));
    }

    private void roads() {
        holds("at most 40 roads", t -> {
            Face x = t.fresh();
            layForty(x);
            t.due(x.count(6), 40);
            t.due(x.road(10, 0, 7), FULL);
            t.due(x.count(6), 40);
            t.due(x.roadOf(10, 0), NONE);
            t.due(x.unroad(3, 11), 7);
            t.due(x.road(10, 0, 7), 40);
            t.due(x.road(3, 11, 7), FULL);
        }).not(Fault.altered(m -> m.mostRoads = 39), Fault.altered(m -> m.mostRoads = 41));
        holds("each from a town to another one", t -> {
            Face x = t.fresh();
            for (int town = 0; town < 12; town++) {
                t.due(x.road(town, town, 1), BAD_VALUE);
                t.due(x.roadOf(town, town), NONE);
            }
            t.due(x.road(0, 1, 1), 1);
            t.due(x.road(11, 10, 1), 2);
        }).not(
            Fault.answered("road", BAD_VALUE, NONE),
            Fault.bent("road", (m, a) -> a[0] != a[1] || a[0] != 11 ? m.road(a[0], a[1], a[2])
                : m.state.roads[11][11]++ + m.count(6)));
        holds("one way", t -> {
            Face x = t.fresh();
            x.road(2, 9, 5);
            t.due(x.roadOf(2, 9), 5);
            t.due(x.roadOf(9, 2), NONE);
            t.due(x.distance(9, 2), NONE);
            t.due(x.search(9, 0), 1);
            t.due(x.unroad(9, 2), UNKNOWN);
            t.due(x.count(6), 1);
        }).not(
            Fault.bent("roadOf", (m, a) -> Math.max(m.roadOf(a[0], a[1]), m.roadOf(a[1], a[0]))),
            Fault.bent("distance", (m, a) -> Math.max(m.distance(a[0], a[1]), m.distance(a[1], a[0]))),
            Fault.bent("unroad", (m, a) -> Math.max(m.unroad(a[0], a[1]), m.unroad(a[1], a[0]))));
        holds("At most one road leads from a town to another one", t -> {
            Face x = t.fresh();
            t.due(x.road(4, 5, 9), 1);
            t.due(x.road(4, 5, 7), 1);
            t.due(x.count(6), 1);
            t.due(x.roadOf(4, 5), 7);
            t.due(x.road(4, 5, 8), 1);
            t.due(x.distance(4, 5), 8);
            t.due(x.search(4, 1), 2);
            t.due(x.unroad(4, 5), 8);
            t.due(x.roadOf(4, 5), NONE);
            t.due(x.unroad(4, 5), UNKNOWN);
        }).not(
            Fault.bent("road", (m, a) -> m.roadOf(a[0], a[1]) < 0 ? m.road(a[0], a[1], a[2]) : m.road(a[0], a[1], a[2]) + 1),
            Fault.bent("road", (m, a) -> m.roadOf(a[0], a[1]) < 0 || m.roadOf(a[0], a[1]) > a[2] ? m.road(a[0], a[1], a[2])
                : m.count(6)));
    }

    private void lengths() {
        holds("with a length (0 to 999)", t -> {
            Face x = t.fresh();
            t.due(x.road(0, 1, -1), BAD_VALUE);
            t.due(x.road(0, 1, 1000), BAD_VALUE);
            t.due(x.roadOf(0, 1), NONE);
            t.due(x.road(0, 1, 0), 1);
            t.due(x.roadOf(0, 1), 0);
            t.due(x.distance(0, 1), 0);
            t.due(x.road(0, 1, 999), 1);
            t.due(x.roadOf(0, 1), 999);
            t.due(x.unroad(0, 1), 999);
        }).not(Fault.range("road", 2, 0, 999, BAD_VALUE)).not(Fault.answered("roadOf", 0, NONE));
    }

    private void ownPiles() {
        holds("The shortest ways from a town are found with piles of their own", t -> {
            Face x = t.fresh();
            for (int i = 0; i < 40; i++) {
                x.comeIn(500, 0);
            }
            x.comeOut();
            x.comeIn(500, 0);
            x.road(0, 1, 5);
            x.road(1, 2, 5);
            x.road(0, 2, 11);
            t.due(x.distance(0, 2), 10);
            t.due(x.search(0, 1), 4);
            t.due(x.search(0, 2), 4);
            t.due(x.count(0), 40);
            t.due(x.count(1), 41);
            t.due(x.count(2), 1);
            t.due(x.count(3), 500);
            t.due(x.count(4), 40);
            t.due(x.out(0, 0), 0);
            t.due(x.comeIn(500, 0), FULL);
        }).not(
            Fault.when("distance", (m, a) -> m.count(0) == 40, NONE),
            Fault.bent("search", (m, a) -> m.state.heap.moves += m.search(a[0], a[1])),
            Fault.bent("distance", (m, a) -> {
                m.state.cameIn += m.search(a[0], 1);
                return m.distance(a[0], a[1]);
            }),
            Fault.bent("search", (m, a) -> {
                m.state.heap.floor = 0;
                return m.search(a[0], a[1]);
            }));
    }

    private void searching() {
        holds("at first an entry with the key 0 and the start as its value", t -> {
            for (int town = 0; town < 12; town++) {
                Face x = t.fresh();
                t.due(x.search(town, 0), 1);
                t.due(x.search(town, 1), 1);
                t.due(x.search(town, 2), 0);
                t.due(x.search(town, 3), 0);
                t.due(x.distance(town, town), 0);
            }
        }).not(
            Fault.told("search", 1, 0, n -> n - 1),
            Fault.told("search", 1, 1, n -> n - 1),
            Fault.told("search", 1, 2, n -> n + 1),
            Fault.when("distance", (m, a) -> a[0] == a[1], NONE));
        holds("while there are any, one comes out", t -> {
            Face x = t.fresh();
            for (int to = 1; to < 12; to++) {
                x.road(0, to, 1);
                x.road(to, 1 + to % 11, 2);
            }
            t.due(x.search(0, 0), 12);
            t.due(x.search(0, 1), 22);
            t.due(x.search(0, 2), 21);
            Face y = t.fresh();
            for (int from = 0; from < 4; from++) {
                for (int to = from + 1; to < 12; to++) {
                    y.road(from, to, to == from + 1 ? 1 : 1 << (from + 5));
                }
            }
            y.road(4, 5, 1);
            y.road(4, 6, 999);
            t.due(y.count(6), 40);
            t.due(y.search(0, 1), 41);
            t.due(y.search(0, 2), 40);
        }).not(Fault.flawed(Model.Flaw.SEARCH_STOPS_WHEN_ALL_ARE_DONE));
        holds("if its town is done already, nothing is done", t -> {
            Face x = t.fresh();
            x.road(0, 1, 1);
            x.road(1, 2, 1);
            x.road(0, 2, 9);
            t.due(x.search(0, 0), 3);
            t.due(x.search(0, 1), 4);
            t.due(x.search(0, 3), 2);
            t.due(x.distance(0, 2), 2);
        }).not(Fault.flawed(Model.Flaw.SEARCH_DOES_TOWNS_AGAIN), Fault.bent("search", (m, a) ->
            a[1] == 3 ? Math.max(m.search(a[0], 3), m.roadOf(0, 2)) : m.search(a[0], a[1])));
        holds("otherwise the town is done, and for each road from it, in the order of the towns to which they lead, an entry with the"
            + " distance and the length as its key, and that town as its value, comes in, if that town is not done", t -> {
            Face x = t.fresh();
            x.road(5, 9, 4);
            x.road(5, 2, 4);
            t.due(x.search(5, 1), 3);
            x.road(2, 9, 0);
            t.due(x.search(5, 1), 4);
            x.unroad(2, 9);
            x.road(9, 2, 0);
            t.due(x.search(5, 1), 3);
            x.road(2, 5, 0);
            t.due(x.search(5, 1), 3);
            x.road(2, 11, 3);
            t.due(x.search(5, 3), 7);
            t.due(x.distance(5, 11), 7);
        }).not(
            Fault.flawed(Model.Flaw.SEARCH_GOES_TO_DONE_TOWNS),
            Fault.flawed(Model.Flaw.SEARCH_GOES_BACKWARDS));
    }

    private void longest() {
        holds("(Keys beyond 65535 cannot be.)", t -> {
            Face x = t.fresh();
            for (int town = 0; town < 11; town++) {
                x.road(town, town + 1, 999);
                x.road(town + 1, town, 999);
            }
            t.due(x.distance(0, 11), 10989);
            t.due(x.distance(11, 0), 10989);
            t.due(x.search(0, 3), 10989);
            t.due(x.search(0, 0), 12);
            t.due(x.search(5, 3), 5994);
        }).not(
            Fault.bent("distance", (m, a) -> Math.min(m.distance(a[0], a[1]), 9999)),
            Fault.bent("search", (m, a) -> Math.min(m.search(a[0], a[1]), 9999)));
    }

    private void roadTakes() {
        under("Promise 7");
        holds("Lays a road, or gives it another length. This is an act", t -> {
            Face x = t.fresh();
            t.due(x.road(0, 1, 0), 1);
            t.due(x.count(8), 1);
            t.due(x.road(0, 1, 999), 1);
            t.due(x.count(8), 2);
            t.due(x.road(0, 1, 999), NONE);
            t.due(x.road(0, 0, 9), BAD_VALUE);
            t.due(x.road(0, 12, 9), UNKNOWN);
            t.due(x.count(8), 2);
            t.due(x.undo(), 1);
            t.due(x.roadOf(0, 1), 0);
            t.due(x.undo(), 0);
            t.due(x.roadOf(0, 1), NONE);
            t.due(x.count(6), 0);
        }).not(
            Fault.bent("road", (m, a) -> unrecorded(m, m.road(a[0], a[1], a[2]))),
            Fault.bent("road", (m, a) -> recorded(m, m.road(a[0], a[1], a[2]))));
        holds("`from`: 0 to 11", t -> {
            Face x = t.fresh();
            for (int from : NO_TOWNS) {
                t.due(x.road(from, 5, 1), UNKNOWN);
            }
            t.due(x.count(6), 0);
            t.due(x.road(0, 5, 1), 1);
            t.due(x.road(11, 5, 1), 2);
        }).not(Fault.range("road", 0, 0, 11, UNKNOWN));
        holds("`to`: 0 to 11", t -> {
            Face x = t.fresh();
            for (int to : NO_TOWNS) {
                t.due(x.road(5, to, 1), UNKNOWN);
            }
            t.due(x.count(6), 0);
            t.due(x.road(5, 0, 1), 1);
            t.due(x.road(5, 11, 1), 2);
        }).not(Fault.range("road", 1, 0, 11, UNKNOWN));
        holds("`length`: 0 to 999", t -> {
            Face x = t.fresh();
            for (int length : new int[] {-1, -5, 1000, 65536, MAX, MIN}) {
                t.due(x.road(5, 6, length), BAD_VALUE);
            }
            t.due(x.count(6), 0);
            t.due(x.road(5, 6, 0), 1);
            t.due(x.road(5, 7, 1), 2);
            t.due(x.road(5, 8, 998), 3);
            t.due(x.road(5, 9, 999), 4);
            t.due(x.road(5, 9, 1000), BAD_VALUE);
            t.due(x.roadOf(5, 9), 999);
        }).not(Fault.range("road", 2, 0, 999, BAD_VALUE));
    }

    private void roadAnswers() {
        holds("Returns how many roads there are then", t -> {
            Face x = t.fresh();
            t.due(x.road(0, 1, 5), 1);
            t.due(x.road(1, 0, 5), 2);
            t.due(x.road(0, 1, 6), 2);
            t.due(x.unroad(1, 0), 5);
            t.due(x.road(0, 1, 7), 1);
            layForty(x);
            t.due(x.count(6), 40);
            t.due(x.road(0, 2, 1), 40);
        }).not(Fault.told("road", -1, 0, n -> n - 1), Fault.answered("road", 40, FULL));
        holds("UNKNOWN (from or to); BAD_VALUE (length, or both are the same); NONE if it is so already; FULL if there are 40 and none"
            + " is there", t -> {
            Face x = t.fresh();
            layForty(x);
            t.due(x.road(12, 12, 1), UNKNOWN);
            t.due(x.road(12, 0, 1000), UNKNOWN);
            t.due(x.road(0, -1, 1000), UNKNOWN);
            t.due(x.road(0, 0, 5), BAD_VALUE);
            t.due(x.road(10, 10, -1), BAD_VALUE);
            t.due(x.road(10, 9, 1000), BAD_VALUE);
            t.due(x.road(10, 9, -1), BAD_VALUE);
            t.due(x.road(0, 2, 7), NONE);
            t.due(x.road(10, 9, 7), FULL);
        }).not(
            Fault.when("road", (m, a) -> a[0] == a[1], BAD_VALUE),
            Fault.when("road", (m, a) -> a[2] < 0 || a[2] > 999, BAD_VALUE),
            Fault.when("road", (m, a) -> m.roadOf(a[0], a[1]) == NONE && a[0] != a[1], FULL),
            Fault.when("road", (m, a) -> a[0] == a[1] && m.roadOf(a[0], a[1]) == NONE, FULL),
            Fault.when("road", (m, a) -> m.count(6) == 40 && a[2] == 7, FULL));
        holds("NONE if it is so already", t -> {
            Face x = t.fresh();
            x.road(3, 4, 0);
            x.road(4, 3, 999);
            t.due(x.road(3, 4, 0), NONE);
            t.due(x.road(4, 3, 999), NONE);
            t.due(x.count(8), 2);
            x.unroad(3, 4);
            t.due(x.road(3, 4, 0), 2);
        }).not(
            Fault.answered("road", NONE, 2),
            Fault.bent("road", (m, a) -> recorded(m, m.road(a[0], a[1], a[2]))),
            Fault.when("road", (m, a) -> a[2] == 0 && m.count(6) == 1, NONE));
        holds("FULL if there are 40 and none is there", t -> {
            Face x = t.fresh();
            layForty(x);
            t.due(x.road(11, 2, 7), FULL);
            t.due(x.road(0, 2, 8), 40);
            t.due(x.road(0, 2, 8), NONE);
            t.due(x.unroad(0, 2), 8);
            t.due(x.road(11, 2, 7), 40);
            t.due(x.road(0, 2, 8), FULL);
            t.due(x.undo(), 3);
            t.due(x.road(0, 2, 8), 40);
        }).not(
            Fault.altered(m -> m.mostRoads = 39),
            Fault.altered(m -> m.mostRoads = 41),
            Fault.when("road", (m, a) -> m.count(6) == 40, FULL));
    }

    private void unroadAnswers() {
        under("Promise 8");
        holds("Removes a road. This is an act", t -> {
            Face x = t.fresh();
            x.road(6, 7, 8);
            t.due(x.unroad(7, 6), UNKNOWN);
            t.due(x.count(8), 1);
            t.due(x.unroad(6, 7), 8);
            t.due(x.count(8), 2);
            t.due(x.count(6), 0);
            t.due(x.roadOf(6, 7), NONE);
            t.due(x.undo(), 1);
            t.due(x.roadOf(6, 7), 8);
            t.due(x.count(6), 1);
        }).not(
            Fault.bent("unroad", (m, a) -> unrecorded(m, m.unroad(a[0], a[1]))),
            Fault.bent("unroad", (m, a) -> recorded(m, m.unroad(a[0], a[1]))),
            Fault.bent("unroad", (m, a) -> m.roadOf(a[0], a[1]) < 0 ? UNKNOWN : m.roadOf(a[0], a[1])));
        holds("`from`: 0 to 11", t -> {
            Face x = t.fresh();
            x.road(0, 11, 1);
            x.road(11, 0, 2);
            for (int from : NO_TOWNS) {
                t.due(x.unroad(from, 0), UNKNOWN);
                t.due(x.unroad(from, 11), UNKNOWN);
            }
            t.due(x.count(6), 2);
            t.due(x.unroad(0, 11), 1);
            t.due(x.unroad(11, 0), 2);
        }).not(Fault.range("unroad", 0, 0, 11, UNKNOWN));
        holds("`to`: 0 to 11", t -> {
            Face x = t.fresh();
            x.road(0, 11, 1);
            x.road(11, 0, 2);
            for (int to : NO_TOWNS) {
                t.due(x.unroad(0, to), UNKNOWN);
                t.due(x.unroad(11, to), UNKNOWN);
                t.due(x.unroad(10, to), UNKNOWN);
            }
            t.due(x.count(6), 2);
            t.due(x.unroad(11, 0), 2);
            t.due(x.unroad(0, 11), 1);
        }).not(Fault.range("unroad", 1, 0, 11, UNKNOWN))
            .not(Fault.bent("unroad", (m, a) -> a[0] == 10 && a[1] == 12 ? m.unroad(11, 0) : m.unroad(a[0], a[1])));
        holds("Returns its length; UNKNOWN (from or to, or there is no such road)", t -> {
            Face x = t.fresh();
            t.due(x.unroad(0, 1), UNKNOWN);
            t.due(x.unroad(3, 3), UNKNOWN);
            t.due(x.unroad(12, 12), UNKNOWN);
            x.road(0, 1, 0);
            x.road(0, 2, 999);
            t.due(x.unroad(0, 1), 0);
            t.due(x.unroad(0, 1), UNKNOWN);
            t.due(x.unroad(0, 2), 999);
            t.due(x.unroad(0, 2), UNKNOWN);
        }).not(
            Fault.when("unroad", (m, a) -> m.roadOf(a[0], a[1]) == NONE, NONE),
            Fault.when("unroad", (m, a) -> a[0] == a[1], BAD_VALUE),
            Fault.when("unroad", (m, a) -> m.roadOf(a[0], a[1]) == 0, UNKNOWN),
            Fault.answered("unroad", 999, 1));
    }

    private void roadOfAnswers() {
        under("Promise 22");
        holds("Tells the length of a road", t -> {
            Face x = t.fresh();
            x.road(0, 1, 0);
            x.road(1, 0, 999);
            t.due(x.roadOf(0, 1), 0);
            t.due(x.roadOf(1, 0), 999);
            x.road(0, 1, 998);
            t.due(x.roadOf(0, 1), 998);
        }).not(Fault.answered("roadOf", 0, NONE), Fault.answered("roadOf", 999, NONE));
        holds("`from`: 0 to 11", t -> {
            Face x = t.fresh();
            x.road(0, 11, 5);
            x.road(11, 0, 6);
            for (int from : NO_TOWNS) {
                t.due(x.roadOf(from, 0), UNKNOWN);
                t.due(x.roadOf(from, 11), UNKNOWN);
            }
            t.due(x.roadOf(0, 11), 5);
            t.due(x.roadOf(11, 0), 6);
        }).not(Fault.range("roadOf", 0, 0, 11, UNKNOWN));
        holds("`to`: 0 to 11", t -> {
            Face x = t.fresh();
            x.road(0, 11, 5);
            x.road(11, 0, 6);
            for (int to : NO_TOWNS) {
                t.due(x.roadOf(0, to), UNKNOWN);
                t.due(x.roadOf(11, to), UNKNOWN);
                t.due(x.roadOf(10, to), UNKNOWN);
            }
            t.due(x.roadOf(11, 0), 6);
            t.due(x.roadOf(0, 11), 5);
        }).not(Fault.range("roadOf", 1, 0, 11, UNKNOWN));
        holds("Returns it; UNKNOWN (from or to); NONE if there is none", t -> {
            Face x = t.fresh();
            t.due(x.roadOf(0, 1), NONE);
            t.due(x.roadOf(1, 1), NONE);
            t.due(x.roadOf(12, 12), UNKNOWN);
            t.due(x.roadOf(-1, 12), UNKNOWN);
            x.road(0, 1, 4);
            t.due(x.roadOf(0, 1), 4);
            t.due(x.roadOf(1, 0), NONE);
            x.unroad(0, 1);
            t.due(x.roadOf(0, 1), NONE);
        }).not(
            Fault.answered("roadOf", NONE, UNKNOWN),
            Fault.answered("roadOf", UNKNOWN, NONE),
            Fault.when("roadOf", (m, a) -> a[0] == a[1] && a[0] < 12, 0));
    }

    private void distanceAnswers() {
        under("Promise 23");
        holds("Tells how far a town is from another one, by roads", t -> {
            Face x = t.fresh();
            x.road(0, 1, 0);
            x.road(1, 2, 0);
            x.road(2, 0, 999);
            x.road(0, 2, 1);
            t.due(x.distance(0, 2), 0);
            t.due(x.distance(1, 0), 999);
            t.due(x.distance(2, 1), 999);
            x.unroad(1, 2);
            t.due(x.distance(0, 2), 1);
            t.due(x.distance(1, 2), NONE);
        }).not(
            Fault.bent("distance", (m, a) -> a[0] == a[1] ? 0 : m.roadOf(a[0], a[1])),
            Fault.answered("distance", 0, NONE));
        holds("`from`: 0 to 11", t -> {
            Face x = t.fresh();
            x.road(0, 5, 5);
            x.road(11, 5, 6);
            for (int from : NO_TOWNS) {
                t.due(x.distance(from, 5), UNKNOWN);
            }
            t.due(x.distance(0, 5), 5);
            t.due(x.distance(11, 5), 6);
        }).not(Fault.range("distance", 0, 0, 11, UNKNOWN));
        holds("`to`: 0 to 11", t -> {
            Face x = t.fresh();
            x.road(5, 0, 5);
            x.road(5, 11, 6);
            for (int to : NO_TOWNS) {
                t.due(x.distance(5, to), UNKNOWN);
            }
            t.due(x.distance(5, 0), 5);
            t.due(x.distance(5, 11), 6);
        }).not(Fault.range("distance", 1, 0, 11, UNKNOWN));
        holds("Returns the distance (0 to itself)", t -> {
            Face x = t.fresh();
            x.road(0, 1, 3);
            x.road(1, 0, 3);
            for (int town = 0; town < 12; town++) {
                t.due(x.distance(town, town), 0);
            }
            t.due(x.distance(0, 1), 3);
        }).not(
            Fault.bent("distance", (m, a) -> a[0] == 0 && a[1] == 0 ? m.distance(0, 1) + m.distance(1, 0) : m.distance(a[0], a[1])),
            Fault.when("distance", (m, a) -> a[0] == a[1] && a[0] > 1, NONE));
        holds("UNKNOWN (from or to); NONE if no way leads there", t -> {
            Face x = t.fresh();
            x.road(1, 0, 5);
            x.road(2, 1, 5);
            t.due(x.distance(0, 1), NONE);
            t.due(x.distance(0, 2), NONE);
            t.due(x.distance(2, 0), 10);
            t.due(x.distance(0, 11), NONE);
            t.due(x.distance(0, 12), UNKNOWN);
            t.due(x.distance(12, 12), UNKNOWN);
            t.due(x.distance(-1, -1), UNKNOWN);
            x.unroad(1, 0);
            t.due(x.distance(2, 0), NONE);
        }).not(
            Fault.answered("distance", NONE, UNKNOWN),
            Fault.answered("distance", UNKNOWN, NONE),
            Fault.when("distance", (m, a) -> a[0] == a[1], 0));
    }

    private void searchAnswers() {
        under("Promise 24");
        holds("Tells about finding the shortest ways from a town", t -> {
            Face x = t.fresh();
            layForty(x);
            t.due(x.search(10, 0), 1);
            t.due(x.search(0, 0), 12);
            t.due(x.search(11, 0), 12);
            t.due(x.search(0, 3), 14);
            x.unroad(11, 1);
            x.unroad(11, 0);
            t.due(x.search(11, 1), 1);
            t.due(x.search(0, 0), 11);
            t.due(x.count(8), 4);
        }).not(
            Fault.when("search", (m, a) -> a[0] == 10 && a[1] == 0, 0),
            Fault.when("search", (m, a) -> m.count(6) == 40, FULL),
            Fault.bent("search", (m, a) -> {
                m.history.add(m.state.copy());
                return m.search(a[0], a[1]);
            }));
        holds("`from`: 0 to 11", t -> {
            Face x = t.fresh();
            for (int from : NO_TOWNS) {
                t.due(x.search(from, 0), UNKNOWN);
                t.due(x.search(from, 3), UNKNOWN);
            }
            t.due(x.search(0, 0), 1);
            t.due(x.search(11, 0), 1);
        }).not(Fault.range("search", 0, 0, 11, UNKNOWN));
        holds("`what`: 0 for the towns that are done, 1 for the entries that come in, 2 for the moves that they make, 3 for the greatest"
            + " distance", t -> {
            Face x = t.fresh();
            x.road(0, 1, 5);
            x.road(1, 2, 5);
            x.road(0, 2, 11);
            x.road(2, 3, 0);
            t.due(x.search(0, 0), 4);
            t.due(x.search(0, 1), 5);
            t.due(x.search(0, 2), 4);
            t.due(x.search(0, 3), 10);
            t.due(x.search(0, -1), BAD_VALUE);
            t.due(x.search(0, 4), BAD_VALUE);
            t.due(x.search(0, MAX), BAD_VALUE);
            t.due(x.search(0, MIN), BAD_VALUE);
        }).not(Fault.range("search", 1, 0, 3, BAD_VALUE));
        holds("Returns the number; UNKNOWN; BAD_VALUE", t -> {
            Face x = t.fresh();
            t.due(x.search(4, 2), 0);
            t.due(x.search(4, 3), 0);
            t.due(x.search(4, 4), BAD_VALUE);
            t.due(x.search(12, 4), UNKNOWN);
            t.due(x.search(-1, -1), UNKNOWN);
        }).not(
            Fault.when("search", (m, a) -> a[1] < 0 || a[1] > 3, BAD_VALUE),
            Fault.answered("search", 0, NONE));
    }
}

/** Promises 7, 8 and 22 to 24: roads, and the shortest ways by them. */
public final class RoadsTest {
    private static final Due DUE = new Due("RoadsTest");

    public static void main(String[] args) {
        promise7Road();
        promise7Full();
        promise8Unroad();
        promise22RoadOf();
        promise23Distance();
        promise23Longest();
        promise24Search();
        promise24SearchOfDoneTowns();
        promise24SearchOfAllRoads();
        DUE.end();
    }

    private static void promise7Road() {
        RisingPiles x = new RisingPiles();
        DUE.is("road(-1, 0, 1)", x.road(-1, 0, 1), RisingPiles.UNKNOWN);
        DUE.is("road(12, 0, 1)", x.road(12, 0, 1), RisingPiles.UNKNOWN);
        DUE.is("road(0, -1, 1)", x.road(0, -1, 1), RisingPiles.UNKNOWN);
        DUE.is("road(0, 12, 1)", x.road(0, 12, 1), RisingPiles.UNKNOWN);
        DUE.is("unknown is told first", x.road(12, 12, -1), RisingPiles.UNKNOWN);
        DUE.is("road(0, 1, -1)", x.road(0, 1, -1), RisingPiles.BAD_VALUE);
        DUE.is("road(0, 1, 1000)", x.road(0, 1, 1000), RisingPiles.BAD_VALUE);
        DUE.is("road(3, 3, 1)", x.road(3, 3, 1), RisingPiles.BAD_VALUE);
        DUE.is("no road is laid by errors", x.count(6), 0);
        DUE.is("road(0, 1, 0)", x.road(0, 1, 0), 1);
        DUE.is("road(1, 0, 999) is another one", x.road(1, 0, 999), 2);
        DUE.is("recorded", x.count(8), 2);
        DUE.is("road(0, 1, 0) is so already", x.road(0, 1, 0), RisingPiles.NONE);
        DUE.is("NONE records nothing", x.count(8), 2);
        DUE.is("road(0, 1, 5) gives another length", x.road(0, 1, 5), 2);
        DUE.is("its length", x.roadOf(0, 1), 5);
        DUE.is("undo()", x.undo(), 2);
        DUE.is("its length", x.roadOf(0, 1), 0);
        DUE.is("entries do not come by that", x.count(0), 0);
    }

    private static void promise7Full() {
        RisingPiles x = new RisingPiles();
        int laid = 0;
        for (int from = 0; from < 4; from++) {
            for (int to = 11; to > 1 && laid < 40; to--) {
                if (from != to) {
                    laid++;
                    DUE.is("road " + laid, x.road(from, to, 7), laid);
                }
            }
        }
        for (int to = 0; to < 2; to++) {
            laid++;
            DUE.is("road " + laid, x.road(11, to, 7), laid);
        }
        DUE.is("40 roads", x.count(6), 40);
        DUE.is("the 41st road", x.road(10, 0, 7), RisingPiles.FULL);
        DUE.is("a bad value is told before", x.road(10, 0, 1000), RisingPiles.BAD_VALUE);
        DUE.is("another length", x.road(11, 0, 8), 40);
        DUE.is("as it is already", x.road(11, 0, 8), RisingPiles.NONE);
        DUE.is("unroad(11, 0)", x.unroad(11, 0), 8);
        DUE.is("there is room again", x.road(10, 0, 7), 40);
    }

    private static void promise8Unroad() {
        RisingPiles x = new RisingPiles();
        x.road(0, 11, 30);
        DUE.is("unroad(11, 0) the other way", x.unroad(11, 0), RisingPiles.UNKNOWN);
        DUE.is("unroad(0, 0)", x.unroad(0, 0), RisingPiles.UNKNOWN);
        DUE.is("unroad(-1, 11)", x.unroad(-1, 11), RisingPiles.UNKNOWN);
        DUE.is("unroad(0, 12)", x.unroad(0, 12), RisingPiles.UNKNOWN);
        DUE.is("unroad(-1, 23)", x.unroad(-1, 23), RisingPiles.UNKNOWN);
        DUE.is("unroad(0, 11)", x.unroad(0, 11), 30);
        DUE.is("recorded", x.count(8), 2);
        DUE.is("no road is left", x.count(6), 0);
        DUE.is("unroad(0, 11) again", x.unroad(0, 11), RisingPiles.UNKNOWN);
        DUE.is("undo()", x.undo(), 1);
        DUE.is("it is there again", x.roadOf(0, 11), 30);
    }

    private static void promise22RoadOf() {
        RisingPiles x = new RisingPiles();
        x.road(2, 9, 0);
        DUE.is("roadOf(2, 9)", x.roadOf(2, 9), 0);
        DUE.is("roadOf(9, 2)", x.roadOf(9, 2), RisingPiles.NONE);
        DUE.is("roadOf(2, 2)", x.roadOf(2, 2), RisingPiles.NONE);
        DUE.is("roadOf(1, 21)", x.roadOf(1, 21), RisingPiles.UNKNOWN);
        DUE.is("roadOf(-1, 0)", x.roadOf(-1, 0), RisingPiles.UNKNOWN);
        DUE.is("roadOf(12, 0)", x.roadOf(12, 0), RisingPiles.UNKNOWN);
        DUE.is("roadOf(0, -1)", x.roadOf(0, -1), RisingPiles.UNKNOWN);
        DUE.is("roadOf(0, 12)", x.roadOf(0, 12), RisingPiles.UNKNOWN);
    }

    private static void promise23Distance() {
        RisingPiles x = new RisingPiles();
        x.road(0, 1, 10);
        x.road(1, 2, 10);
        x.road(0, 2, 21);
        x.road(2, 0, 1);
        x.road(4, 0, 1);
        DUE.is("distance(0, 0)", x.distance(0, 0), 0);
        DUE.is("distance(0, 1)", x.distance(0, 1), 10);
        DUE.is("distance(0, 2)", x.distance(0, 2), 20);
        DUE.is("distance(1, 0)", x.distance(1, 0), 11);
        DUE.is("distance(4, 2)", x.distance(4, 2), 21);
        DUE.is("distance(0, 4)", x.distance(0, 4), RisingPiles.NONE);
        DUE.is("distance(3, 3)", x.distance(3, 3), 0);
        DUE.is("distance(-1, 0)", x.distance(-1, 0), RisingPiles.UNKNOWN);
        DUE.is("distance(12, 0)", x.distance(12, 0), RisingPiles.UNKNOWN);
        DUE.is("distance(0, -1)", x.distance(0, -1), RisingPiles.UNKNOWN);
        DUE.is("distance(0, 12)", x.distance(0, 12), RisingPiles.UNKNOWN);
        x.road(0, 2, 19);
        DUE.is("distance(0, 2)", x.distance(0, 2), 19);
        DUE.is("telling is not recorded", x.count(8), 4);
    }

    private static void promise23Longest() {
        RisingPiles x = new RisingPiles();
        for (int town = 0; town < 11; town++) {
            x.road(town, town + 1, 999);
        }
        DUE.is("distance(0, 11)", x.distance(0, 11), 10989);
        DUE.is("search(0, 0)", x.search(0, 0), 12);
        DUE.is("search(0, 1)", x.search(0, 1), 12);
        DUE.is("search(0, 3)", x.search(0, 3), 10989);
        DUE.is("search(11, 3)", x.search(11, 3), 0);
    }

    private static void promise24Search() {
        RisingPiles x = new RisingPiles();
        DUE.is("search(5, 0)", x.search(5, 0), 1);
        DUE.is("search(5, 1)", x.search(5, 1), 1);
        DUE.is("search(5, 2)", x.search(5, 2), 0);
        DUE.is("search(5, 3)", x.search(5, 3), 0);
        DUE.is("search(-1, 0)", x.search(-1, 0), RisingPiles.UNKNOWN);
        DUE.is("search(12, 0)", x.search(12, 0), RisingPiles.UNKNOWN);
        DUE.is("unknown is told first", x.search(12, 9), RisingPiles.UNKNOWN);
        DUE.is("search(0, -1)", x.search(0, -1), RisingPiles.BAD_VALUE);
        DUE.is("search(0, 4)", x.search(0, 4), RisingPiles.BAD_VALUE);
        x.road(0, 1, 5);
        x.road(1, 2, 5);
        x.road(0, 2, 11);
        x.road(2, 3, 0);
        DUE.is("search(0, 0)", x.search(0, 0), 4);
        DUE.is("search(0, 1)", x.search(0, 1), 5);
        DUE.is("search(0, 2)", x.search(0, 2), 4);
        DUE.is("search(0, 3)", x.search(0, 3), 10);
        DUE.is("the moves are not those of the entries", x.count(4), 0);
        x.comeIn(3, 0);
        x.comeOut();
        DUE.is("the floor is not that of the entries", x.search(0, 2), 4);
    }

    private static void promise24SearchOfDoneTowns() {
        RisingPiles x = new RisingPiles();
        x.road(0, 1, 0);
        x.road(1, 0, 0);
        DUE.is("no entry for a town that is done", x.search(0, 1), 2);
        x.road(0, 2, 0);
        x.road(1, 2, 0);
        DUE.is("one for a town that waits", x.search(0, 1), 4);
        x.road(2, 3, 9);
        x.road(0, 3, 8);
        DUE.is("an entry that comes too late moves, too", x.search(0, 2), 3);
        DUE.is("the greatest distance is a done town's", x.search(0, 3), 8);
    }

    private static void promise24SearchOfAllRoads() {
        RisingPiles x = new RisingPiles();
        Model model = new Model();
        for (int from = 0; from < 11; from++) {
            x.road(from, from + 1, 1);
            model.road(from, from + 1, 1);
        }
        for (int from = 0; from < 10; from++) {
            for (int to = from + 2; to < 12; to++) {
                x.road(from, to, 999 - 60 * from - to);
                model.road(from, to, 999 - 60 * from - to);
            }
        }
        DUE.is("40 roads", x.count(6), 40);
        DUE.is("each road brings in an entry", x.search(0, 1), 41);
        DUE.is("they all come out", x.search(0, 2), model.search(0, 2));
    }
}

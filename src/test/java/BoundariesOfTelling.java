/** The sentences of promises 16 to 21 and 25 that name boundary cases. */
final class BoundariesOfTelling extends Boundaries {
    BoundariesOfTelling() {
        entryAnswers();
        pileTakes();
        pileAnswers();
        nextAnswers();
        rankedAnswers();
        movesLeftAnswers();
        outTells();
        outAnswers();
        countTells();
        countAnswers();
    }

    private void entryAnswers() {
        under("Promise 16");
        holds("`entry`: an entry in the piles", t -> {
            Face x = t.fresh();
            comeIn(x, 2, 3, 4, 5);
            x.comeOut();
            x.takeBack(2);
            for (int what = 0; what <= 4; what++) {
                for (int entry : new int[] {-1, -5, 0, 2, 4, 40, 999, 1000, MAX, MIN}) {
                    t.due(x.entry(entry, what), UNKNOWN);
                }
            }
            t.due(x.entry(1, 0), 3);
            t.due(x.entry(3, 0), 5);
        }).not(
            Fault.when("entry", (m, a) -> a[0] == 0, NONE),
            Fault.when("entry", (m, a) -> a[0] < 0, BAD_VALUE),
            Fault.when("entry", (m, a) -> a[0] == 4, 0),
            Fault.when("entry", (m, a) -> a[0] >= 1000, BAD_VALUE));
        holds("`what`: 0 for its key, 1 for its value, 2 for its pile, 3 for its place in it, from 0, 4 for the moves that it made", t -> {
            Face x = t.fresh();
            x.comeIn(0, 999);
            x.comeIn(65535, 0);
            x.comeIn(65534, 1);
            int[][] due = {{0, 999, 0, 0, 0}, {65535, 0, 16, 0, 0}, {65534, 1, 16, 1, 0}};
            for (int entry = 0; entry < 3; entry++) {
                for (int what = 0; what <= 4; what++) {
                    t.due(x.entry(entry, what), due[entry][what]);
                }
            }
            comeOut(x, 2);
            t.due(x.entry(1, 2), 1);
            t.due(x.entry(1, 3), 0);
            t.due(x.entry(1, 4), 1);
            for (int what : new int[] {-1, 5, MAX, MIN}) {
                t.due(x.entry(1, what), BAD_VALUE);
            }
        }).not(Fault.range("entry", 1, 0, 4, BAD_VALUE)).not(Fault.told("entry", 1, 3, n -> n + 1));
        holds("Returns the number; UNKNOWN; BAD_VALUE", t -> {
            Face x = t.fresh();
            t.due(x.entry(0, 5), UNKNOWN);
            t.due(x.entry(0, -1), UNKNOWN);
            comeIn(x, 0);
            t.due(x.entry(0, 5), BAD_VALUE);
            t.due(x.entry(0, -1), BAD_VALUE);
            t.due(x.entry(1, 5), UNKNOWN);
            t.due(x.entry(0, 0), 0);
        }).not(Fault.when("entry", (m, a) -> a[1] < 0, BAD_VALUE), Fault.when("entry", (m, a) -> a[1] > 4, BAD_VALUE));
    }

    private void pileTakes() {
        under("Promise 17");
        holds("`pile`: 0 to 16", t -> {
            Face x = t.fresh();
            comeIn(x, 0, 32768);
            for (int pile : new int[] {-1, 17, 18, 32, MAX, MIN}) {
                for (int what = 0; what <= 3; what++) {
                    t.due(x.pile(pile, what), UNKNOWN);
                }
            }
            t.due(x.pile(0, 3), 0);
            t.due(x.pile(16, 3), 1);
            t.due(x.pile(15, 0), 0);
            t.due(x.pile(1, 0), 0);
        }).not(Fault.range("pile", 0, 0, 16, UNKNOWN));
        holds("`what`: 0 for how many entries it has, 1 for the least key, 2 for the greatest key, 3 for the entry at its front", t -> {
            Face x = t.fresh();
            comeIn(x, 0, 40, 63, 32, 35);
            t.due(x.pile(6, 0), 4);
            t.due(x.pile(6, 1), 32);
            t.due(x.pile(6, 2), 63);
            t.due(x.pile(6, 3), 1);
            x.takeBack(2);
            x.takeBack(3);
            t.due(x.pile(6, 1), 35);
            t.due(x.pile(6, 2), 40);
            x.takeBack(1);
            t.due(x.pile(6, 0), 1);
            t.due(x.pile(6, 1), 35);
            t.due(x.pile(6, 2), 35);
            t.due(x.pile(6, 3), 4);
            t.due(x.pile(0, 1), 0);
            t.due(x.pile(0, 2), 0);
            Face y = t.fresh();
            comeIn(y, 65535, 32768, 65535, 32768);
            t.due(y.pile(16, 1), 32768);
            t.due(y.pile(16, 2), 65535);
            t.due(y.pile(16, 3), 0);
            y.takeBack(0);
            t.due(y.pile(16, 1), 32768);
            t.due(y.pile(16, 3), 1);
            for (int what : new int[] {-1, 4, MAX, MIN}) {
                t.due(y.pile(16, what), BAD_VALUE);
            }
        }).not(Fault.range("pile", 1, 0, 3, BAD_VALUE))
            .not(Fault.told("pile", 1, 1, n -> (short) n), Fault.told("pile", 1, 2, n -> (short) n));
        holds("(1 to 3: NONE if it is empty)", t -> {
            Face x = t.fresh();
            for (int pile = 0; pile <= 16; pile++) {
                t.due(x.pile(pile, 0), 0);
                for (int what = 1; what <= 3; what++) {
                    t.due(x.pile(pile, what), NONE);
                }
            }
            comeIn(x, 0, 9);
            comeOut(x, 2);
            for (int pile : new int[] {0, 4, 16}) {
                t.due(x.pile(pile, 0), 0);
                for (int what = 1; what <= 3; what++) {
                    t.due(x.pile(pile, what), NONE);
                }
            }
            comeIn(x, 9);
            t.due(x.pile(0, 1), 9);
        }).not(
            Fault.answered("pile", NONE, 0),
            Fault.answered("pile", NONE, UNKNOWN),
            Fault.when("pile", (m, a) -> m.pile(a[0], 0) == 0, NONE),
            Fault.bent("pile", (m, a) -> a[0] == 4 && a[1] == 3 && m.count(2) > 0 ? 1 : m.pile(a[0], a[1])));
    }

    private void pileAnswers() {
        holds("Returns the number; UNKNOWN; BAD_VALUE", t -> {
            Face x = t.fresh();
            t.due(x.pile(17, 4), UNKNOWN);
            t.due(x.pile(-1, -1), UNKNOWN);
            t.due(x.pile(0, 4), BAD_VALUE);
            t.due(x.pile(16, -1), BAD_VALUE);
            t.due(x.pile(16, 0), 0);
        }).not(
            Fault.when("pile", (m, a) -> a[1] < 0, BAD_VALUE),
            Fault.when("pile", (m, a) -> a[1] > 3, BAD_VALUE),
            Fault.when("pile", (m, a) -> a[1] != 0 && m.count(0) == 0, NONE));
    }

    private void nextAnswers() {
        under("Promise 18");
        holds("Tells what would come out next", t -> {
            Face x = t.fresh();
            comeIn(x, 65535, 40, 33, 33);
            t.due(x.next(0), 2);
            t.due(x.next(1), 33);
            t.due(x.count(3), 0);
            t.due(x.count(4), 0);
            t.due(x.pile(6, 0), 3);
            t.due(x.comeOut(), 2);
            t.due(x.next(0), 3);
            comeOut(x, 2);
            t.due(x.next(0), 0);
            t.due(x.next(1), 65535);
        }).not(
            Fault.bent("next", (m, a) -> {
                m.state.heap.bringUp();
                return m.next(a[0]);
            }),
            Fault.bent("next", (m, a) -> a[0] == 0 ? m.pile(m.state.heap.lowest(), 3) : m.next(a[0])),
            Fault.flawed(Model.Flaw.LAST_COMES_OUT));
        holds("`what`: 0 for the entry, 1 for its key, 2 for how many entries move by that", t -> {
            Face x = t.fresh();
            comeIn(x, 0, 7);
            t.due(x.next(0), 0);
            t.due(x.next(1), 0);
            t.due(x.next(2), 0);
            x.comeOut();
            t.due(x.next(2), 1);
            for (int i = 0; i < 39; i++) {
                x.comeIn(4 + i % 4, 0);
            }
            t.due(x.next(2), 40);
            x.comeOut();
            t.due(x.count(4), 40);
            t.due(x.next(2), 0);
            for (int what : new int[] {-1, 3, MAX, MIN}) {
                t.due(x.next(what), BAD_VALUE);
            }
        }).not(Fault.range("next", 0, 0, 2, BAD_VALUE))
            .not(Fault.told("next", 0, 2, n -> Math.max(n, 1)), Fault.told("next", 0, 2, n -> Math.min(n, 39)));
        holds("Returns the number; BAD_VALUE; NONE if there is none", t -> {
            Face x = t.fresh();
            for (int what = 0; what <= 2; what++) {
                t.due(x.next(what), NONE);
            }
            t.due(x.next(3), BAD_VALUE);
            t.due(x.next(-1), BAD_VALUE);
            comeIn(x, 0);
            t.due(x.next(2), 0);
            x.comeOut();
            t.due(x.next(0), NONE);
            t.due(x.next(2), NONE);
        }).not(
            Fault.answered("next", NONE, 0),
            Fault.when("next", (m, a) -> m.count(0) == 0, NONE),
            Fault.when("next", (m, a) -> m.count(0) == 0 && a[0] == 2, 0));
    }

    private void rankedAnswers() {
        under("Promise 19");
        holds("Tells the entries in the order in which they would come out, if nothing else is done", t -> {
            Face x = t.fresh();
            comeIn(x, 3, 65535, 9, 3, 0, 9, 8);
            int[] order = {4, 0, 3, 6, 2, 5, 1};
            for (int rank = 0; rank < order.length; rank++) {
                t.due(x.ranked(rank), order[rank]);
            }
            t.due(x.count(3), 0);
            for (int entry : order) {
                t.due(x.ranked(0), entry);
                t.due(x.comeOut(), entry);
            }
            for (int i = 0; i < 40; i++) {
                x.comeIn(65535, 0);
            }
            t.due(x.ranked(0), 7);
            t.due(x.ranked(39), 46);
        }).not(
            Fault.flawed(Model.Flaw.COMES_TO_THE_FRONT),
            Fault.flawed(Model.Flaw.LAST_COMES_OUT),
            Fault.told("ranked", 0, 39, n -> NONE));
        holds("`rank`: a rank, from 0", t -> {
            Face x = t.fresh();
            comeIn(x, 5, 4);
            t.due(x.ranked(-1), BAD_VALUE);
            t.due(x.ranked(0), 1);
            t.due(x.ranked(1), 0);
            t.due(x.ranked(2), NONE);
        }).not(
            Fault.bent("ranked", (m, a) -> m.ranked(Math.max(a[0], 0))),
            Fault.bent("ranked", (m, a) -> m.ranked(a[0] - 1)),
            Fault.when("ranked", (m, a) -> a[0] == 0, BAD_VALUE),
            Fault.bent("ranked", (m, a) -> m.ranked(Math.min(a[0], 1))));
        holds("Returns the entry; BAD_VALUE if rank is negative; NONE if there are not so many", t -> {
            Face x = t.fresh();
            t.due(x.ranked(0), NONE);
            t.due(x.ranked(MIN), BAD_VALUE);
            t.due(x.ranked(-1), BAD_VALUE);
            t.due(x.ranked(MAX), NONE);
            for (int i = 1; i <= 40; i++) {
                x.comeIn(i, 0);
                t.due(x.ranked(i - 1), i - 1);
                t.due(x.ranked(i), NONE);
            }
            t.due(x.ranked(41), NONE);
            t.due(x.ranked(MAX), NONE);
            x.takeBack(39);
            t.due(x.ranked(39), NONE);
            t.due(x.ranked(38), 38);
        }).not(
            Fault.answered("ranked", NONE, 0),
            Fault.answered("ranked", NONE, BAD_VALUE),
            Fault.when("ranked", (m, a) -> m.count(0) == 0, NONE),
            Fault.bent("ranked", (m, a) -> m.ranked(a[0] == 40 ? 39 : a[0])),
            Fault.bent("ranked", (m, a) -> m.ranked(a[0] == MAX ? -1 : a[0])));
    }

    private void movesLeftAnswers() {
        under("Promise 20");
        holds("Tells how many moves all entries in the piles can make yet at most, by coming out: for each one the number of its pile",
            t -> {
            Face x = t.fresh();
            t.due(x.movesLeft(), 0);
            comeIn(x, 0, 0);
            t.due(x.movesLeft(), 0);
            comeIn(x, 1);
            t.due(x.movesLeft(), 1);
            for (int i = 0; i < 37; i++) {
                x.comeIn(65535, 0);
            }
            t.due(x.movesLeft(), 593);
            comeOut(x, 3);
            t.due(x.movesLeft(), 592);
            x.takeBack(3);
            t.due(x.movesLeft(), 576);
            x.less(4, 1);
            t.due(x.movesLeft(), 560);
            comeOut(x, 2);
            t.due(x.movesLeft(), 0);
        }).not(
            Fault.told("movesLeft", -1, 0, n -> n - 1),
            Fault.told("movesLeft", -1, 0, n -> Math.min(n, 592)),
            Fault.bent("movesLeft", (m, a) -> m.movesLeft() + m.pile(0, 0)),
            Fault.bent("movesLeft", (m, a) -> m.movesLeft() - m.pile(16, 0)));
        holds("Returns the bound", t -> {
            Face x = t.fresh();
            t.due(x.movesLeft(), 0);
            for (int i = 0; i < 40; i++) {
                x.comeIn(65535 - i, 0);
            }
            t.due(x.movesLeft(), 640);
            t.due(x.comeOutUpTo(65535), 40);
            t.due(x.movesLeft(), 0);
        }).not(Fault.answered("movesLeft", 0, NONE), Fault.answered("movesLeft", 640, 600));
    }

    private void outTells() {
        under("Promise 21");
        holds("Tells about the latest 8 entries that came out", t -> {
            Face x = t.fresh();
            comeIn(x, 1, 2, 3, 4, 5, 6, 7, 8, 9, 10);
            for (int out = 1; out <= 10; out++) {
                t.due(x.comeOut(), out - 1);
                for (int back = 0; back <= 9; back++) {
                    t.due(x.out(back, 0), back < Math.min(out, 8) ? out - 1 - back : NONE);
                }
            }
        }).not(Fault.altered(m -> m.mostTold = 7), Fault.altered(m -> m.mostTold = 9));
        holds("`back`: 0 for the latest one, 1 for the one before, and so on", t -> {
            Face x = t.fresh();
            comeIn(x, 0, 1, 2, 3, 4, 5, 6, 7, 8);
            x.takeBack(4);
            t.due(x.comeOutUpTo(8), 8);
            int[] order = {8, 7, 6, 5, 3, 2, 1, 0};
            for (int back = 0; back < 8; back++) {
                t.due(x.out(back, 0), order[back]);
            }
            t.due(x.out(-1, 0), BAD_VALUE);
            t.due(x.out(MIN, 0), BAD_VALUE);
            t.due(x.out(8, 0), NONE);
            t.due(x.out(MAX, 0), NONE);
        }).not(
            Fault.bent("out", (m, a) -> m.out(Math.max(a[0], 0), a[1])),
            Fault.bent("out", (m, a) -> m.out(a[0] < 0 ? 8 : a[0], a[1])),
            Fault.bent("out", (m, a) -> m.out(a[0] < 0 ? -1 : a[0] & 7, a[1])),
            Fault.bent("out", (m, a) -> m.out(a[0] < 0 ? -1 : 7 - a[0], a[1])));
        holds("`what`: 0 for the entry, 1 for its key, 2 for its value, 3 for the moves that it made", t -> {
            Face x = t.fresh();
            x.comeIn(0, 0);
            x.comeIn(65535, 999);
            x.comeIn(65534, 5);
            comeOut(x, 3);
            int[][] due = {{1, 65535, 999, 2}, {2, 65534, 5, 1}, {0, 0, 0, 0}};
            for (int back = 0; back < 3; back++) {
                for (int what = 0; what <= 3; what++) {
                    t.due(x.out(back, what), due[back][what]);
                }
            }
            for (int what : new int[] {-1, 4, MAX, MIN}) {
                t.due(x.out(0, what), BAD_VALUE);
            }
            x.comeIn(65535, 0);
            x.comeOut();
            x.undo();
            for (int what = 0; what <= 3; what++) {
                t.due(x.out(0, what), due[0][what]);
            }
        }).not(Fault.range("out", 1, 0, 3, BAD_VALUE))
            .not(Fault.told("out", 1, 1, n -> (short) n), Fault.told("out", 1, 3, n -> Math.min(n, 1)));
    }

    private void outAnswers() {
        holds("Returns the number; BAD_VALUE (back is negative, or what); NONE if there is none", t -> {
            Face x = t.fresh();
            t.due(x.out(0, 0), NONE);
            t.due(x.out(0, 4), BAD_VALUE);
            t.due(x.out(0, -1), BAD_VALUE);
            t.due(x.out(-1, 0), BAD_VALUE);
            t.due(x.out(8, 4), BAD_VALUE);
            t.due(x.out(MAX, -1), BAD_VALUE);
            comeIn(x, 0, 6);
            x.comeOut();
            t.due(x.out(0, 0), 0);
            t.due(x.out(0, 3), 0);
            t.due(x.out(1, 0), NONE);
            t.due(x.out(5, 0), NONE);
            t.due(x.takeBack(1), 6);
            t.due(x.out(1, 0), NONE);
            t.due(x.undo(), 3);
            t.due(x.undo(), 2);
            t.due(x.out(0, 0), NONE);
        }).not(
            Fault.answered("out", NONE, 0),
            Fault.answered("out", 0, NONE),
            Fault.when("out", (m, a) -> m.count(2) == 0, NONE),
            Fault.when("out", (m, a) -> a[0] > 7, NONE),
            Fault.answered("out", NONE, BAD_VALUE));
    }

    private void countTells() {
        under("Promise 25");
        holds("0 for the entries in the piles, 1 for those that came in so far, 2 for those that came out so far, 3 for the floor", t -> {
            Face x = t.fresh();
            counted(t, x, 0, 0, 0, 0);
            comeIn(x, 0, 65535, 65535);
            counted(t, x, 3, 3, 0, 0);
            comeOut(x, 2);
            counted(t, x, 1, 3, 2, 65535);
            x.takeBack(2);
            counted(t, x, 0, 3, 2, 65535);
            for (int i = 0; i < 40; i++) {
                x.comeIn(65535, 0);
            }
            x.comeIn(65535, 0);
            counted(t, x, 40, 43, 2, 65535);
            x.comeOutUpTo(65535);
            counted(t, x, 0, 43, 42, 65535);
            Face y = t.fresh();
            throughOut(y, 100);
            counted(t, y, 0, 1000, 1000, 0);
        }).not(
            Fault.told("count", 0, 0, n -> Math.min(n, 39)),
            Fault.told("count", 0, 1, n -> Math.min(n, 999)),
            Fault.bent("count", (m, a) -> a[0] == 1 ? m.count(1) - m.count(7) : m.count(a[0])),
            Fault.bent("count", (m, a) -> a[0] == 2 ? m.count(2) + m.count(7) : m.count(a[0])),
            Fault.told("count", 0, 2, n -> Math.min(n, 999)),
            Fault.told("count", 0, 3, n -> (short) n));
        holds("4 for moves so far (of all entries)", t -> {
            Face x = t.fresh();
            t.due(x.count(4), 0);
            comeIn(x, 0, 1, 65535);
            x.comeOut();
            t.due(x.count(4), 0);
            x.comeOut();
            t.due(x.count(4), 1);
            x.less(2, 2);
            t.due(x.count(4), 2);
            x.takeBack(2);
            t.due(x.count(4), 2);
            x.undo();
            x.undo();
            t.due(x.count(4), 1);
        }).not(
            Fault.bent("count", (m, a) -> a[0] == 4 ? Math.max(m.entry(2, 4), 0) : m.count(a[0])),
            Fault.flawed(Model.Flaw.LESS_MAKES_NO_MOVE),
            Fault.flawed(Model.Flaw.EMPTIES_ALWAYS));
        holds("5 for piles that are not empty, 6 for roads, 7 for entries that were taken back so far", t -> {
            Face x = t.fresh();
            for (int what = 5; what <= 7; what++) {
                t.due(x.count(what), 0);
            }
            comeIn(x, 0, 0);
            t.due(x.count(5), 1);
            for (int bit = 0; bit < 16; bit++) {
                x.comeIn(1 << bit, 0);
                t.due(x.count(5), 2 + bit);
            }
            layForty(x);
            t.due(x.count(6), 40);
            for (int entry = 0; entry < 18; entry++) {
                x.takeBack(entry);
                t.due(x.count(7), entry + 1);
            }
            t.due(x.count(5), 0);
            t.due(x.undo(), 3);
            t.due(x.count(7), 17);
            t.due(x.count(5), 1);
        }).not(
            Fault.bent("count", (m, a) -> a[0] == 5 ? m.count(5) - Math.min(1, m.pile(0, 0)) : m.count(a[0])),
            Fault.told("count", 0, 5, n -> Math.min(n, 16)),
            Fault.told("count", 0, 6, n -> Math.min(n, 39)),
            Fault.told("count", 0, 7, n -> Math.min(n, 17)));
        holds("8 for the states in the history, 9 for the length of the text", t -> {
            Face x = t.fresh();
            t.due(x.count(8), 0);
            t.due(x.count(9), 0);
            for (int i = 1; i <= 6; i++) {
                x.comeIn(i, 0);
                t.due(x.count(8), Math.min(i, 4));
            }
            for (int i = 1; i <= 61; i++) {
                x.type((char) (i * 1000));
                t.due(x.count(9), Math.min(i, 60));
            }
            t.due(x.undo(), 3);
            t.due(x.count(8), 3);
            t.due(x.count(9), 60);
            x.clearText();
            t.due(x.count(9), 0);
        }).not(
            Fault.told("count", 0, 8, n -> Math.min(n, 3)),
            Fault.altered(m -> m.mostStates = 5),
            Fault.told("count", 0, 9, n -> Math.min(n, 59)),
            Fault.altered(m -> m.mostInText = 61));
    }

    private static void counted(Trial t, Face x, int held, int cameIn, int cameOut, int floor) {
        t.due(x.count(0), held);
        t.due(x.count(1), cameIn);
        t.due(x.count(2), cameOut);
        t.due(x.count(3), floor);
    }

    private void countAnswers() {
        holds("Returns the number; BAD_VALUE", t -> {
            Face x = t.fresh();
            for (int what = 0; what <= 9; what++) {
                t.due(x.count(what), 0);
            }
            for (int what : new int[] {-1, 10, 11, MAX, MIN}) {
                t.due(x.count(what), BAD_VALUE);
            }
        }).not(Fault.range("count", 0, 0, 9, BAD_VALUE)).not(Fault.answered("count", 0, NONE));
    }
}

/** The Terms' sentences on entries, piles, coming out and less that name boundary cases. */
final class BoundariesOfPiles extends Boundaries {
    BoundariesOfPiles() {
        under("What it is");
        calls();
        under("Terms");
        numbers();
        parts();
        room();
        floor();
        piles();
        ends();
        emptying();
        comingOut();
        notBelowTheFloor();
        less();
    }

    private void calls() {
        holds("An object is used for at most 512 calls after it has been made", t -> {
            Face x = t.fresh();
            for (int i = 0; i < 256; i++) {
                t.due(x.comeIn(7, 0), i);
                t.due(x.comeOut(), i);
            }
        }).not(Fault.when("comeOut", (m, a) -> m.count(2) == 255, NONE));
    }

    private void numbers() {
        holds("An entry has a number (numbered from 0 in the order in which entries came in, whatever becomes of them)", t -> {
            Face x = t.fresh();
            t.due(x.comeIn(9, 0), 0);
            t.due(x.comeIn(3, 0), 1);
            t.due(x.comeOut(), 1);
            t.due(x.comeIn(3, 0), 2);
            t.due(x.takeBack(2), 3);
            t.due(x.comeIn(2, 0), NOT_POSSIBLE);
            t.due(x.comeIn(3, 0), 3);
            t.due(x.takeBack(0), 9);
            t.due(x.takeBack(3), 3);
            t.due(x.comeIn(3, 0), 4);
            t.due(x.entry(4, 0), 3);
        }).not(
            Fault.bent("comeIn", (m, a) -> m.comeIn(a[0], a[1]) + 1),
            Fault.bent("comeIn", (m, a) -> {
                m.state.cameIn += m.comeIn(a[0], a[1]) == NOT_POSSIBLE ? 1 : 0;
                return m.state.cameIn - 1;
            }),
            Fault.told("comeOut", -1, 0, n -> n + 1),
            Fault.bent("comeIn", (m, a) -> m.comeIn(a[0], a[1]) - m.count(7)),
            Fault.bent("comeIn", (m, a) -> m.comeIn(a[0], a[1]) - m.count(2)));
    }

    private void parts() {
        holds("a key (0 to 65535)", t -> {
            Face x = t.fresh();
            t.due(x.comeIn(-1, 0), BAD_VALUE);
            t.due(x.comeIn(65536, 0), BAD_VALUE);
            t.due(x.comeIn(0, 0), 0);
            t.due(x.comeIn(65535, 0), 1);
            t.due(x.entry(0, 0), 0);
            t.due(x.entry(1, 0), 65535);
            t.due(x.takeBack(1), 65535);
        }).not(Fault.range("comeIn", 0, 0, 65535, BAD_VALUE))
            .not(Fault.told("entry", 1, 0, n -> (short) n), Fault.told("takeBack", -1, 0, n -> (short) n));
        holds("a value (0 to 999)", t -> {
            Face x = t.fresh();
            t.due(x.comeIn(0, -1), BAD_VALUE);
            t.due(x.comeIn(0, 1000), BAD_VALUE);
            t.due(x.comeIn(0, 0), 0);
            t.due(x.comeIn(0, 999), 1);
            t.due(x.entry(0, 1), 0);
            t.due(x.entry(1, 1), 999);
        }).not(Fault.range("comeIn", 1, 0, 999, BAD_VALUE)).not(Fault.told("entry", 1, 1, n -> (byte) n));
        holds("the moves that it made (0 at first)", t -> {
            Face x = t.fresh();
            comeIn(x, 0, 65535, 1);
            for (int entry = 0; entry < 3; entry++) {
                t.due(x.entry(entry, 4), 0);
            }
            t.due(x.comeOut(), 0);
            t.due(x.out(0, 3), 0);
        }).not(Fault.told("entry", 1, 4, n -> n + 1), Fault.flawed(Model.Flaw.EMPTIES_ALWAYS));
    }

    private void room() {
        holds("At most 40 entries are in the piles at a time", t -> {
            Face x = t.fresh();
            for (int i = 0; i < 40; i++) {
                t.due(x.comeIn(1000, 0), i);
            }
            t.due(x.comeIn(1000, 0), FULL);
            t.due(x.count(0), 40);
            t.due(x.pile(10, 0), 40);
            t.due(x.entry(39, 3), 39);
            t.due(x.next(2), 40);
            t.due(x.ranked(39), 39);
            t.due(x.comeOut(), 0);
            t.due(x.pile(0, 0), 39);
            t.due(x.comeIn(1000, 0), 40);
            t.due(x.comeIn(1000, 0), FULL);
        }).not(
            Fault.altered(m -> m.mostInPiles = 39),
            Fault.altered(m -> m.mostInPiles = 41),
            Fault.altered(m -> m.mostComing = 40));
        holds("at most 1000 entries come in in all", t -> {
            Face x = t.fresh();
            throughOut(x, 99);
            for (int i = 990; i < 1000; i++) {
                t.due(x.comeIn(0, 0), i);
            }
            t.due(x.comeIn(0, 0), FULL);
            comeOut(x, 10);
            t.due(x.comeIn(0, 0), FULL);
            t.due(x.count(1), 1000);
            t.due(x.out(0, 0), 999);
        }).not(Fault.altered(m -> m.mostComing = 999), Fault.altered(m -> m.mostComing = 1001));
    }

    private void floor() {
        holds("The floor is the key that came out the latest (0 at first)", t -> {
            Face x = t.fresh();
            t.due(x.count(3), 0);
            comeIn(x, 7, 5, 9);
            t.due(x.count(3), 0);
            t.due(x.takeBack(1), 5);
            t.due(x.count(3), 0);
            t.due(x.comeOut(), 0);
            t.due(x.count(3), 7);
            t.due(x.comeIn(7, 0), 3);
            t.due(x.comeOut(), 3);
            t.due(x.count(3), 7);
            t.due(x.comeOut(), 2);
            t.due(x.count(3), 9);
            t.due(x.comeOut(), NONE);
            t.due(x.count(3), 9);
        }).not(
            Fault.told("count", 0, 3, n -> Math.max(n, 1)),
            Fault.bent("count", (m, a) -> a[0] == 3 && m.count(0) == 0 ? 0 : m.count(a[0])),
            Fault.bent("takeBack", (m, a) -> m.state.heap.floor = m.takeBack(a[0])),
            Fault.bent("comeIn", (m, a) -> {
                int number = m.comeIn(a[0], a[1]);
                m.state.heap.floor = m.next(1);
                return number;
            }),
            Fault.flawed(Model.Flaw.LEAVES_THE_FLOOR));
    }

    private void piles() {
        holds("There are 17 piles, numbered from 0", t -> {
            Face x = t.fresh();
            comeIn(x, 0, 65535);
            t.due(x.pile(-1, 0), UNKNOWN);
            t.due(x.pile(0, 0), 1);
            t.due(x.pile(16, 0), 1);
            t.due(x.pile(17, 0), UNKNOWN);
        }).not(Fault.range("pile", 0, 0, 16, UNKNOWN));
        holds("An entry with the key of the floor belongs to the pile 0", t -> {
            for (int floor : new int[] {0, 1, 32767, 32768, 65535}) {
                Face x = t.fresh();
                comeIn(x, floor);
                x.comeOut();
                x.comeIn(floor, 0);
                t.due(x.entry(1, 2), 0);
                t.due(x.pile(0, 3), 1);
            }
        }).not(
            Fault.told("entry", 1, 2, n -> Math.max(n, 1)),
            Fault.bent("entry", (m, a) -> a[1] == 2 && m.count(3) == 65535 ? 16 : m.entry(a[0], a[1])));
        holds("another one to the pile 1 + the number of the highest bit by which its key is unlike the floor (bits from 0)", t -> {
            for (int bit = 0; bit < 16; bit++) {
                Face x = t.fresh();
                comeIn(x, 1 << bit, (2 << bit) - 1);
                t.due(x.entry(0, 2), 1 + bit);
                t.due(x.entry(1, 2), 1 + bit);
            }
            int[][] unlike = {{5, 6, 2}, {5, 7, 2}, {5, 8, 4}, {4, 5, 1}, {7, 8, 4}, {32767, 32768, 16}, {32768, 32769, 1},
                {32768, 65535, 15}, {65534, 65535, 1}, {255, 256, 9}};
            for (int[] one : unlike) {
                Face x = t.fresh();
                comeIn(x, one[0]);
                x.comeOut();
                x.comeIn(one[1], 0);
                t.due(x.entry(1, 2), one[2]);
            }
        }).not(
            Fault.told("entry", 1, 2, n -> n - 1),
            Fault.told("entry", 1, 2, n -> Math.min(n, 15)),
            Fault.bent("entry", (m, a) -> a[1] != 2 ? m.entry(a[0], a[1]) : 32 - Integer.numberOfLeadingZeros(m.entry(a[0], 0))),
            Fault.bent("entry", (m, a) -> a[1] != 2 ? m.entry(a[0], a[1])
                : 1 + Integer.numberOfTrailingZeros(m.entry(a[0], 0) ^ m.count(3))));
    }

    private void ends() {
        holds("A pile is a row of entries; an entry that comes to a pile stands at its end", t -> {
            Face x = t.fresh();
            comeIn(x, 5, 6, 9, 7);
            t.due(x.pile(3, 3), 0);
            t.due(x.entry(0, 3), 0);
            t.due(x.entry(1, 3), 1);
            t.due(x.entry(3, 3), 2);
            t.due(x.less(2, 4), 3);
            t.due(x.entry(2, 3), 3);
            t.due(x.takeBack(0), 5);
            t.due(x.entry(1, 3), 0);
            t.due(x.entry(2, 3), 2);
        }).not(
            Fault.flawed(Model.Flaw.COMES_TO_THE_FRONT),
            Fault.bent("entry", (m, a) -> a[1] == 3 && a[0] == 2 ? 0 : m.entry(a[0], a[1])));
    }

    private void emptying() {
        holds("if the pile 0 is empty, the lowest pile that is not empty is emptied: the least key of its entries becomes the floor", t -> {
            Face x = t.fresh();
            comeIn(x, 0, 300, 6, 4, 5);
            t.due(x.comeOut(), 0);
            t.due(x.count(3), 0);
            t.due(x.pile(3, 0), 3);
            t.due(x.count(4), 0);
            t.due(x.comeOut(), 3);
            t.due(x.count(3), 4);
            t.due(x.pile(3, 0), 0);
            t.due(x.pile(9, 0), 1);
            t.due(x.entry(1, 4), 0);
            t.due(x.count(4), 3);
        }).not(
            Fault.flawed(Model.Flaw.EMPTIES_ALWAYS),
            Fault.flawed(Model.Flaw.EMPTIES_THE_HIGHEST),
            Fault.flawed(Model.Flaw.FLOOR_OF_THE_FRONT));
        holds("then its entries, from the first one of the row on, move each to the pile to which they belong then (which is a lower"
            + " one), and each of them made one move more", t -> {
            Face x = t.fresh();
            comeIn(x, 12, 8, 13, 15, 8);
            t.due(x.comeOut(), 1);
            t.due(x.out(0, 3), 1);
            t.due(x.entry(4, 2), 0);
            t.due(x.entry(0, 2), 3);
            t.due(x.entry(0, 3), 0);
            t.due(x.entry(2, 3), 1);
            t.due(x.entry(3, 3), 2);
            for (int entry : new int[] {0, 2, 3, 4}) {
                t.due(x.entry(entry, 4), 1);
            }
            t.due(x.count(4), 5);
        }).not(
            Fault.flawed(Model.Flaw.EMPTIES_BACKWARDS),
            Fault.told("out", 1, 3, n -> n - 1),
            Fault.bent("entry", (m, a) -> a[1] == 4 && m.entry(a[0], 2) == 0 ? 0 : m.entry(a[0], a[1])),
            Fault.told("count", 0, 4, n -> Math.max(n - 1, 0)));
    }

    private void comingOut() {
        holds("Then the first entry of the pile 0 comes out", t -> {
            Face x = t.fresh();
            comeIn(x, 6, 5, 5, 5);
            t.due(x.comeOut(), 1);
            t.due(x.comeIn(5, 0), 4);
            t.due(x.comeOut(), 2);
            t.due(x.comeOut(), 3);
            t.due(x.comeOut(), 4);
            t.due(x.comeOut(), 0);
        }).not(Fault.flawed(Model.Flaw.LAST_COMES_OUT), Fault.flawed(Model.Flaw.COMES_TO_THE_FRONT));
    }

    private void notBelowTheFloor() {
        holds("No key that comes in is less than the floor", t -> {
            for (int floor : new int[] {1, 20, 65535}) {
                Face x = t.fresh();
                comeIn(x, floor);
                x.comeOut();
                t.due(x.comeIn(floor - 1, 0), NOT_POSSIBLE);
                t.due(x.comeIn(0, 0), NOT_POSSIBLE);
                t.due(x.comeIn(floor, 0), 1);
            }
        }).not(
            Fault.bent("comeIn", (m, a) -> m.comeIn(Math.max(a[0], m.count(3)), a[1])),
            Fault.bent("comeIn", (m, a) -> m.comeIn(a[0] == 0 ? m.count(3) : a[0], a[1])),
            Fault.when("comeIn", (m, a) -> m.count(1) > 0 && a[0] == m.count(3), NOT_POSSIBLE));
    }

    private void less() {
        holds("The key of an entry can be made less, but not less than the floor", t -> {
            Face x = t.fresh();
            comeIn(x, 8, 100);
            x.comeOut();
            t.due(x.less(1, 7), NOT_POSSIBLE);
            t.due(x.less(1, 0), NOT_POSSIBLE);
            t.due(x.entry(1, 0), 100);
            t.due(x.less(1, 9), 1);
            t.due(x.less(1, 7), NOT_POSSIBLE);
            t.due(x.less(1, 8), 0);
            t.due(x.less(1, 7), NOT_POSSIBLE);
            t.due(x.entry(1, 0), 8);
        }).not(
            Fault.bent("less", (m, a) -> m.less(a[0], Math.max(a[1], m.count(3)))),
            Fault.when("less", (m, a) -> a[1] == m.count(3), NOT_POSSIBLE),
            Fault.when("less", (m, a) -> a[1] == 0, BAD_VALUE));
        holds("if it belongs to another pile then, it leaves its pile, and comes to the other one (this is a move, too)", t -> {
            Face x = t.fresh();
            comeIn(x, 65535, 40, 33);
            t.due(x.less(0, 32), 6);
            t.due(x.pile(16, 0), 0);
            t.due(x.entry(0, 3), 2);
            t.due(x.entry(0, 4), 1);
            t.due(x.less(1, 0), 0);
            t.due(x.entry(1, 4), 1);
            t.due(x.entry(0, 3), 1);
            t.due(x.count(4), 2);
        }).not(Fault.flawed(Model.Flaw.LESS_MAKES_NO_MOVE), Fault.flawed(Model.Flaw.COMES_TO_THE_FRONT));
        holds("otherwise it stays in its place", t -> {
            Face x = t.fresh();
            comeIn(x, 63, 40, 33);
            t.due(x.less(0, 32), 6);
            t.due(x.entry(0, 0), 32);
            t.due(x.entry(0, 3), 0);
            t.due(x.entry(0, 4), 0);
            t.due(x.less(1, 39), 6);
            t.due(x.entry(1, 3), 1);
            t.due(x.entry(2, 3), 2);
            t.due(x.pile(6, 3), 0);
            t.due(x.count(4), 0);
        }).not(Fault.flawed(Model.Flaw.LESS_GOES_TO_THE_END), Fault.flawed(Model.Flaw.LESS_ALWAYS_MOVES));
    }
}

/** Promises 16 to 21 and 25: what is told of entries, piles, what comes next, what came out, and the counts. */
public final class TellingTest {
    private static final Due DUE = new Due("TellingTest");

    public static void main(String[] args) {
        promise16Entry();
        promise17Pile();
        promise18Next();
        promise19Ranked();
        promise20MovesLeft();
        promise21Out();
        promise25Count();
        DUE.end();
    }

    private static void promise16Entry() {
        RisingPiles x = new RisingPiles();
        DUE.is("entry(0, 0) of none", x.entry(0, 0), RisingPiles.UNKNOWN);
        x.comeIn(2, 1);
        x.comeIn(1000, 555);
        x.comeIn(3, 2);
        x.comeOut();
        DUE.is("entry(0, 0) of one that came out", x.entry(0, 0), RisingPiles.UNKNOWN);
        DUE.is("key", x.entry(1, 0), 1000);
        DUE.is("value", x.entry(1, 1), 555);
        DUE.is("pile", x.entry(1, 2), 10);
        DUE.is("place", x.entry(1, 3), 0);
        DUE.is("moves", x.entry(1, 4), 0);
        DUE.is("moves of the other", x.entry(2, 4), 1);
        DUE.is("entry(1, -1)", x.entry(1, -1), RisingPiles.BAD_VALUE);
        DUE.is("entry(1, 5)", x.entry(1, 5), RisingPiles.BAD_VALUE);
        DUE.is("unknown is told first", x.entry(3, 5), RisingPiles.UNKNOWN);
        DUE.is("entry(-1, 0)", x.entry(-1, 0), RisingPiles.UNKNOWN);
        DUE.is("entry(max, 0)", x.entry(Integer.MAX_VALUE, 0), RisingPiles.UNKNOWN);
    }

    private static void promise17Pile() {
        RisingPiles x = new RisingPiles();
        x.comeIn(5, 0);
        x.comeIn(7, 0);
        x.comeIn(4, 0);
        x.comeIn(0, 0);
        DUE.is("pile(3, 0)", x.pile(3, 0), 3);
        DUE.is("pile(3, 1)", x.pile(3, 1), 4);
        DUE.is("pile(3, 2)", x.pile(3, 2), 7);
        DUE.is("pile(3, 3)", x.pile(3, 3), 0);
        x.less(0, 5);
        x.takeBack(0);
        DUE.is("front of the pile 3", x.pile(3, 3), 1);
        DUE.is("pile(0, 1)", x.pile(0, 1), 0);
        DUE.is("pile(0, 2)", x.pile(0, 2), 0);
        DUE.is("pile(0, 3)", x.pile(0, 3), 3);
        DUE.is("pile(16, 0)", x.pile(16, 0), 0);
        for (int what = 1; what <= 3; what++) {
            DUE.is("pile(16, " + what + ") of an empty one", x.pile(16, what), RisingPiles.NONE);
        }
        DUE.is("pile(-1, 0)", x.pile(-1, 0), RisingPiles.UNKNOWN);
        DUE.is("pile(17, 0)", x.pile(17, 0), RisingPiles.UNKNOWN);
        DUE.is("unknown is told first", x.pile(17, 9), RisingPiles.UNKNOWN);
        DUE.is("pile(16, 4) of an empty one", x.pile(16, 4), RisingPiles.BAD_VALUE);
        DUE.is("pile(3, -1)", x.pile(3, -1), RisingPiles.BAD_VALUE);
    }

    private static void promise18Next() {
        RisingPiles x = new RisingPiles();
        DUE.is("next(0) of none", x.next(0), RisingPiles.NONE);
        DUE.is("next(2) of none", x.next(2), RisingPiles.NONE);
        DUE.is("next(-1)", x.next(-1), RisingPiles.BAD_VALUE);
        DUE.is("next(3)", x.next(3), RisingPiles.BAD_VALUE);
        x.comeIn(6, 0);
        x.comeIn(5, 0);
        x.comeIn(5, 0);
        x.comeIn(64, 0);
        DUE.is("the first of the least keys", x.next(0), 1);
        DUE.is("its key", x.next(1), 5);
        DUE.is("so many move", x.next(2), 3);
        DUE.is("nothing moved by telling", x.count(4), 0);
        DUE.is("the floor stays", x.count(3), 0);
        x.comeOut();
        DUE.is("next(0)", x.next(0), 2);
        DUE.is("none moves from the pile 0", x.next(2), 0);
    }

    private static void promise19Ranked() {
        RisingPiles x = new RisingPiles();
        DUE.is("ranked(0) of none", x.ranked(0), RisingPiles.NONE);
        DUE.is("ranked(-1)", x.ranked(-1), RisingPiles.BAD_VALUE);
        DUE.is("ranked(min)", x.ranked(Integer.MIN_VALUE), RisingPiles.BAD_VALUE);
        int[] keys = {900, 3, 17, 3, 900, 0, 16};
        for (int key : keys) {
            x.comeIn(key, 0);
        }
        x.less(4, 17);
        int[] order = {5, 1, 3, 6, 2, 4, 0};
        for (int rank = 0; rank < order.length; rank++) {
            DUE.is("ranked(" + rank + ")", x.ranked(rank), order[rank]);
        }
        DUE.is("ranked(7)", x.ranked(7), RisingPiles.NONE);
        DUE.is("ranked(max)", x.ranked(Integer.MAX_VALUE), RisingPiles.NONE);
        for (int entry : order) {
            DUE.is("they come out so", x.comeOut(), entry);
        }
    }

    private static void promise20MovesLeft() {
        RisingPiles x = new RisingPiles();
        DUE.is("movesLeft() of none", x.movesLeft(), 0);
        x.comeIn(0, 0);
        DUE.is("none in the pile 0", x.movesLeft(), 0);
        x.comeIn(65535, 0);
        DUE.is("16 in the pile 16", x.movesLeft(), 16);
        x.comeIn(1, 0);
        DUE.is("one in the pile 1", x.movesLeft(), 17);
        x.comeOut();
        x.comeOut();
        DUE.is("movesLeft()", x.movesLeft(), 16);
        x.comeOut();
        DUE.is("movesLeft()", x.movesLeft(), 0);
    }

    private static void promise21Out() {
        RisingPiles x = new RisingPiles();
        DUE.is("out(0, 0) of none", x.out(0, 0), RisingPiles.NONE);
        DUE.is("out(-1, 0)", x.out(-1, 0), RisingPiles.BAD_VALUE);
        DUE.is("out(0, -1)", x.out(0, -1), RisingPiles.BAD_VALUE);
        DUE.is("out(0, 4)", x.out(0, 4), RisingPiles.BAD_VALUE);
        for (int i = 0; i < 10; i++) {
            x.comeIn(10 * i, 100 + i);
        }
        x.comeOut();
        DUE.is("out(0, 0)", x.out(0, 0), 0);
        DUE.is("out(1, 0)", x.out(1, 0), RisingPiles.NONE);
        x.takeBack(5);
        DUE.is("one taken back did not come out", x.out(1, 0), RisingPiles.NONE);
        DUE.is("eight come out", x.comeOutUpTo(80), 7);
        DUE.is("out(0, 0)", x.out(0, 0), 8);
        DUE.is("out(0, 1)", x.out(0, 1), 80);
        DUE.is("out(0, 2)", x.out(0, 2), 108);
        DUE.is("out(7, 0)", x.out(7, 0), 0);
        DUE.is("out(7, 3)", x.out(7, 3), 0);
        DUE.is("out(8, 0)", x.out(8, 0), RisingPiles.NONE);
        DUE.is("out(max, 0)", x.out(Integer.MAX_VALUE, 0), RisingPiles.NONE);
        x.comeOut();
        DUE.is("the oldest one is told no more", x.out(7, 0), 1);
        DUE.is("out(8, 0)", x.out(8, 0), RisingPiles.NONE);
        DUE.is("90 moved from 7 to 5 to 0", x.out(0, 3), 3);
    }

    private static void promise25Count() {
        RisingPiles x = new RisingPiles();
        x.comeIn(5, 0);
        x.comeIn(6, 0);
        x.comeIn(100, 0);
        x.comeIn(200, 0);
        x.comeIn(300, 0);
        x.takeBack(2);
        x.comeOut();
        x.road(0, 1, 1);
        x.type('a');
        x.type('b');
        int[] due = {3, 5, 1, 5, 2, 3, 1, 1, 4, 2};
        for (int what = 0; what < due.length; what++) {
            DUE.is("count(" + what + ")", x.count(what), due[what]);
        }
        DUE.is("count(-1)", x.count(-1), RisingPiles.BAD_VALUE);
        DUE.is("count(10)", x.count(10), RisingPiles.BAD_VALUE);
        x.comeIn(5, 0);
        DUE.is("the pile 0 counts, too", x.count(5), 4);
        x.takeBack(1);
        DUE.is("moves of those taken back count", x.count(4), 2);
    }
}

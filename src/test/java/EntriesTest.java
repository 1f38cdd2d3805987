/** Promises 1 to 6: a new object, and entries that come in, come out, are made less and are taken back. */
public final class EntriesTest {
    private static final Due DUE = new Due("EntriesTest");

    public static void main(String[] args) {
        promise1NewObject();
        promise2ComeIn();
        promise2Full();
        promise2AThousand();
        promise3ComeOut();
        promise3SameKeysInTheirOrder();
        promise4ComeOutUpTo();
        promise4EmptiesNoPileForThat();
        promise5Less();
        promise5LessGoesToTheEnd();
        promise6TakeBack();
        DUE.end();
    }

    private static void promise1NewObject() {
        RisingPiles x = new RisingPiles();
        for (int what = 0; what <= 9; what++) {
            DUE.is("new: count(" + what + ")", x.count(what), 0);
        }
        for (int pile = 0; pile <= 16; pile++) {
            DUE.is("new: pile(" + pile + ", 0)", x.pile(pile, 0), 0);
        }
        for (int from = 0; from < 12; from++) {
            for (int to = 0; to < 12; to++) {
                DUE.is("new: roadOf", x.roadOf(from, to), RisingPiles.NONE);
            }
        }
        DUE.is("new: next(0)", x.next(0), RisingPiles.NONE);
        DUE.is("new: out(0, 0)", x.out(0, 0), RisingPiles.NONE);
        DUE.is("new: undo()", x.undo(), RisingPiles.NONE);
        DUE.is("new: restore()", x.restore(), RisingPiles.NONE);
        DUE.is("new: refusal(0)", x.refusal(0), RisingPiles.NONE);
        DUE.is("new: comeOut()", x.comeOut(), RisingPiles.NONE);
        DUE.is("new: clearText()", x.clearText(), 0);
        RisingPiles other = new RisingPiles();
        other.comeIn(1, 1);
        DUE.is("another object's entries are its own", x.count(0), 0);
    }

    private static void promise2ComeIn() {
        RisingPiles x = new RisingPiles();
        DUE.is("comeIn(-1, 0)", x.comeIn(-1, 0), RisingPiles.BAD_VALUE);
        DUE.is("comeIn(65536, 0)", x.comeIn(65536, 0), RisingPiles.BAD_VALUE);
        DUE.is("comeIn(0, -1)", x.comeIn(0, -1), RisingPiles.BAD_VALUE);
        DUE.is("comeIn(0, 1000)", x.comeIn(0, 1000), RisingPiles.BAD_VALUE);
        DUE.is("comeIn(min, min)", x.comeIn(Integer.MIN_VALUE, Integer.MIN_VALUE), RisingPiles.BAD_VALUE);
        DUE.is("errors record nothing", x.count(8), 0);
        DUE.is("comeIn(0, 0)", x.comeIn(0, 0), 0);
        DUE.is("comeIn(65535, 999)", x.comeIn(65535, 999), 1);
        DUE.is("recorded", x.count(8), 2);
        DUE.is("entry(1, 0)", x.entry(1, 0), 65535);
        DUE.is("entry(1, 1)", x.entry(1, 1), 999);
        DUE.is("entry(1, 2)", x.entry(1, 2), 16);
        DUE.is("entry(1, 4)", x.entry(1, 4), 0);
        DUE.is("entry(0, 2)", x.entry(0, 2), 0);
        x.comeIn(500, 0);
        x.comeOut();
        x.comeOut();
        DUE.is("floor", x.count(3), 500);
        DUE.is("comeIn(499, 0) below the floor", x.comeIn(499, 0), RisingPiles.NOT_POSSIBLE);
        DUE.is("a bad value is told before", x.comeIn(499, 1000), RisingPiles.BAD_VALUE);
        DUE.is("comeIn(500, 0) on the floor", x.comeIn(500, 0), 3);
        for (int bit = 0; bit < 16; bit++) {
            RisingPiles y = new RisingPiles();
            y.comeIn(1 << bit, 0);
            DUE.is("the pile of a key with the bit " + bit, y.entry(0, 2), bit + 1);
            y.comeIn((2 << bit) - 1, 0);
            DUE.is("the highest bit tells", y.entry(1, 2), bit + 1);
        }
    }

    private static void promise2Full() {
        RisingPiles x = new RisingPiles();
        x.comeIn(7, 0);
        x.comeOut();
        for (int i = 0; i < 40; i++) {
            DUE.is("comeIn(" + (100 + i) + ", 0)", x.comeIn(100 + i, 0), i + 1);
        }
        DUE.is("the 41st in the piles", x.comeIn(200, 0), RisingPiles.FULL);
        DUE.is("not possible is told before full", x.comeIn(6, 0), RisingPiles.NOT_POSSIBLE);
        DUE.is("a bad value is told before full", x.comeIn(200, 1000), RisingPiles.BAD_VALUE);
        DUE.is("40 are in", x.count(0), 40);
        DUE.is("41 came in", x.count(1), 41);
        x.takeBack(20);
        DUE.is("there is room again", x.comeIn(200, 0), 41);
        DUE.is("and none again", x.comeIn(200, 0), RisingPiles.FULL);
        x.comeOut();
        DUE.is("there is room once more", x.comeIn(200, 0), 42);
    }

    private static void promise2AThousand() {
        RisingPiles x = new RisingPiles();
        for (char c : "+0,-,+0,-,+0,-,+0,-,+0,-,+0,-,+0,-,+0,-,+0,-,+0,-".toCharArray()) {
            x.type(c);
        }
        for (int i = 0; i < 99; i++) {
            DUE.is("perform() of 20 orders", x.perform(), 20);
        }
        for (int i = 990; i < 1000; i++) {
            DUE.is("comeIn(9, 0)", x.comeIn(9, 0), i);
        }
        DUE.is("the 1001st", x.comeIn(9, 0), RisingPiles.FULL);
        DUE.is("10 are in", x.count(0), 10);
        DUE.is("the last one", x.entry(999, 3), 9);
        x.comeOut();
        DUE.is("full for ever", x.comeIn(9, 0), RisingPiles.FULL);
        DUE.is("not possible is told before", x.comeIn(8, 0), RisingPiles.NOT_POSSIBLE);
        DUE.is("perform() is refused too", x.perform(), RisingPiles.NOT_POSSIBLE);
        DUE.is("refusal(1)", x.refusal(1), RisingPiles.NOT_POSSIBLE);
        x.undo();
        x.undo();
        DUE.is("undo() gives the number back", x.comeIn(9, 0), 999);
    }

    private static void promise3ComeOut() {
        RisingPiles x = new RisingPiles();
        DUE.is("comeOut() of none", x.comeOut(), RisingPiles.NONE);
        DUE.is("NONE records nothing", x.count(8), 0);
        int[] keys = {12, 9, 8, 15, 300};
        for (int key : keys) {
            x.comeIn(key, key);
        }
        DUE.is("all are in the pile 4", x.pile(4, 0), 4);
        DUE.is("comeOut()", x.comeOut(), 2);
        DUE.is("the floor", x.count(3), 8);
        DUE.is("12 moved", x.entry(0, 2), 3);
        DUE.is("9 moved", x.entry(1, 2), 1);
        DUE.is("15 moved", x.entry(3, 2), 3);
        DUE.is("15 stands behind 12", x.entry(3, 3), 1);
        DUE.is("300 stays", x.entry(4, 2), 9);
        DUE.is("300 made no move", x.entry(4, 4), 0);
        DUE.is("the one that came out moved too", x.count(4), 4);
        DUE.is("comeOut()", x.comeOut(), 1);
        DUE.is("12 is where it was", x.entry(0, 2), 3);
        DUE.is("moves", x.count(4), 5);
        DUE.is("comeOut()", x.comeOut(), 0);
        DUE.is("comeOut()", x.comeOut(), 3);
        DUE.is("comeOut()", x.comeOut(), 4);
        DUE.is("comeOut()", x.comeOut(), RisingPiles.NONE);
        DUE.is("the floor stays", x.count(3), 300);
        DUE.is("moves", x.count(4), 9);
    }

    private static void promise3SameKeysInTheirOrder() {
        RisingPiles x = new RisingPiles();
        int[] keys = {21, 20, 21, 20, 16, 20};
        for (int key : keys) {
            x.comeIn(key, 0);
        }
        int[] order = {4, 1, 3, 5, 0, 2};
        for (int entry : order) {
            DUE.is("comeOut()", x.comeOut(), entry);
        }
    }

    private static void promise4ComeOutUpTo() {
        RisingPiles x = new RisingPiles();
        DUE.is("comeOutUpTo(-1)", x.comeOutUpTo(-1), RisingPiles.BAD_VALUE);
        DUE.is("comeOutUpTo(65536)", x.comeOutUpTo(65536), RisingPiles.BAD_VALUE);
        DUE.is("comeOutUpTo(0) of none", x.comeOutUpTo(0), RisingPiles.NONE);
        x.comeIn(10, 0);
        x.comeIn(30, 0);
        x.comeIn(20, 0);
        x.comeIn(20, 0);
        DUE.is("comeOutUpTo(9)", x.comeOutUpTo(9), RisingPiles.NONE);
        DUE.is("NONE records nothing", x.count(8), 4);
        DUE.is("comeOutUpTo(20)", x.comeOutUpTo(20), 3);
        DUE.is("the latest", x.out(0, 0), 3);
        DUE.is("the one before", x.out(1, 0), 2);
        DUE.is("came out", x.count(2), 3);
        DUE.is("undo() of all", x.undo(), 3);
        DUE.is("came out", x.count(2), 0);
        DUE.is("comeOutUpTo(65535)", x.comeOutUpTo(65535), 4);
        DUE.is("the floor", x.count(3), 30);
        RisingPiles y = new RisingPiles();
        for (int i = 0; i < 40; i++) {
            y.comeIn(i, 0);
        }
        DUE.is("all 40", y.comeOutUpTo(39), 40);
    }

    private static void promise4EmptiesNoPileForThat() {
        RisingPiles x = new RisingPiles();
        x.comeIn(4, 0);
        x.comeIn(9, 0);
        x.comeIn(8, 0);
        DUE.is("comeOutUpTo(7)", x.comeOutUpTo(7), 1);
        DUE.is("the floor is the key that came out", x.count(3), 4);
        DUE.is("the pile 4 is not emptied", x.pile(4, 0), 2);
        DUE.is("moves", x.count(4), 1);
    }

    private static void promise5Less() {
        RisingPiles x = new RisingPiles();
        x.comeIn(4, 0);
        x.comeOut();
        x.comeIn(100, 7);
        DUE.is("less(0, 4) of one that came out", x.less(0, 4), RisingPiles.UNKNOWN);
        DUE.is("less(2, 4) of one that never came", x.less(2, 4), RisingPiles.UNKNOWN);
        DUE.is("less(-1, 4)", x.less(-1, 4), RisingPiles.UNKNOWN);
        DUE.is("unknown is told first", x.less(-1, -1), RisingPiles.UNKNOWN);
        DUE.is("less(1, -1)", x.less(1, -1), RisingPiles.BAD_VALUE);
        DUE.is("less(1, 65536)", x.less(1, 65536), RisingPiles.BAD_VALUE);
        DUE.is("less(1, 3) below the floor", x.less(1, 3), RisingPiles.NOT_POSSIBLE);
        DUE.is("less(1, 101) above its key", x.less(1, 101), RisingPiles.NOT_POSSIBLE);
        int before = x.count(8);
        DUE.is("less(1, 100) is its key", x.less(1, 100), RisingPiles.NONE);
        DUE.is("nothing recorded", x.count(8), before);
        DUE.is("less(1, 99) in the same pile", x.less(1, 99), 7);
        DUE.is("it has the key", x.entry(1, 0), 99);
        DUE.is("no move", x.entry(1, 4), 0);
        DUE.is("no move of all", x.count(4), 1);
        DUE.is("less(1, 12)", x.less(1, 12), 4);
        DUE.is("a move", x.entry(1, 4), 1);
        DUE.is("a move of all", x.count(4), 2);
        DUE.is("its value stays", x.entry(1, 1), 7);
        DUE.is("less(1, 4) to the floor", x.less(1, 4), 0);
        DUE.is("a move more", x.entry(1, 4), 2);
        DUE.is("less(1, 4) again", x.less(1, 4), RisingPiles.NONE);
    }

    private static void promise5LessGoesToTheEnd() {
        RisingPiles x = new RisingPiles();
        x.comeIn(9, 0);
        x.comeIn(5, 0);
        x.comeIn(10, 0);
        x.comeIn(5, 0);
        DUE.is("less(2, 8) stays", x.less(2, 8), 4);
        DUE.is("in its place", x.entry(2, 3), 1);
        DUE.is("less(0, 5) goes", x.less(0, 5), 3);
        DUE.is("to the end", x.entry(0, 3), 2);
        DUE.is("the place behind it closes", x.entry(2, 3), 0);
        DUE.is("comeOut()", x.comeOut(), 1);
        DUE.is("comeOut()", x.comeOut(), 3);
        DUE.is("comeOut()", x.comeOut(), 0);
        DUE.is("its moves", x.out(0, 3), 2);
        DUE.is("comeOut()", x.comeOut(), 2);
    }

    private static void promise6TakeBack() {
        RisingPiles x = new RisingPiles();
        DUE.is("takeBack(0) of none", x.takeBack(0), RisingPiles.UNKNOWN);
        DUE.is("takeBack(-1)", x.takeBack(-1), RisingPiles.UNKNOWN);
        x.comeIn(3, 0);
        x.comeIn(2, 0);
        x.comeIn(3, 0);
        DUE.is("takeBack(0)", x.takeBack(0), 3);
        DUE.is("recorded", x.count(8), 4);
        DUE.is("takeBack(0) again", x.takeBack(0), RisingPiles.UNKNOWN);
        DUE.is("taken back", x.count(7), 1);
        DUE.is("the floor stays", x.count(3), 0);
        DUE.is("not among those that came out", x.count(2), 0);
        DUE.is("the one behind it comes up", x.entry(2, 3), 1);
        x.comeOut();
        DUE.is("takeBack(1) of one that came out", x.takeBack(1), RisingPiles.UNKNOWN);
        DUE.is("comeIn(3, 0) has the next number", x.comeIn(3, 0), 3);
    }
}

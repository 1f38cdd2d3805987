/** Promises 13 to 15: undo, and the snapshot. */
public final class HistoryTest {
    private static final Due DUE = new Due("HistoryTest");

    public static void main(String[] args) {
        promise13Undo();
        promise13EveryActIsRecorded();
        promise13RestoresAll();
        promise13RestoresWhatCameOut();
        promise14Keep();
        promise15Restore();
        DUE.end();
    }

    private static void promise13Undo() {
        RisingPiles x = new RisingPiles();
        DUE.is("undo() of none", x.undo(), RisingPiles.NONE);
        for (int i = 0; i < 6; i++) {
            x.comeIn(i, 0);
            DUE.is("states", x.count(8), Math.min(i + 1, 4));
        }
        for (int left = 3; left >= 0; left--) {
            DUE.is("undo()", x.undo(), left);
            DUE.is("entries", x.count(0), left + 2);
        }
        DUE.is("the oldest ones are dropped", x.undo(), RisingPiles.NONE);
        DUE.is("entries", x.count(0), 2);
        DUE.is("the number is given again", x.comeIn(9, 9), 2);
        DUE.is("states", x.count(8), 1);
    }

    private static void promise13EveryActIsRecorded() {
        RisingPiles x = new RisingPiles();
        x.comeIn(90, 0);
        x.less(0, 80);
        DUE.is("undo() of less()", x.undo(), 1);
        DUE.is("its key", x.entry(0, 0), 90);
        x.takeBack(0);
        DUE.is("undo() of takeBack()", x.undo(), 1);
        DUE.is("it is in", x.count(7) * 10 + x.count(0), 1);
        x.comeOut();
        DUE.is("undo() of comeOut()", x.undo(), 1);
        DUE.is("the floor", x.count(3), 0);
        x.keep();
        DUE.is("keep() is no act", x.count(8), 1);
        x.restore();
        DUE.is("undo() of restore()", x.undo(), 1);
        x.type('a');
        DUE.is("undo()", x.undo(), 0);
        DUE.is("the text is no part of the state", x.count(9), 1);
        DUE.is("undo() is no act", x.undo(), RisingPiles.NONE);
    }

    private static void promise13RestoresAll() {
        RisingPiles x = new RisingPiles();
        x.comeIn(6, 1);
        x.comeIn(5, 2);
        x.comeIn(7, 3);
        x.takeBack(2);
        x.road(0, 1, 3);
        x.comeOut();
        DUE.is("undo()", x.undo(), 3);
        int[] due = {2, 3, 0, 0, 0, 1, 1, 1, 3, 0};
        for (int what = 0; what < due.length; what++) {
            DUE.is("count(" + what + ")", x.count(what), due[what]);
        }
        DUE.is("out(0, 0)", x.out(0, 0), RisingPiles.NONE);
        DUE.is("entry(0, 2)", x.entry(0, 2), 3);
        DUE.is("entry(0, 4)", x.entry(0, 4), 0);
        DUE.is("entry(1, 3)", x.entry(1, 3), 1);
        DUE.is("entry(1, 1)", x.entry(1, 1), 2);
        DUE.is("undo()", x.undo(), 2);
        DUE.is("roadOf(0, 1)", x.roadOf(0, 1), RisingPiles.NONE);
        DUE.is("count(6)", x.count(6), 0);
        DUE.is("undo()", x.undo(), 1);
        DUE.is("entry(2, 1)", x.entry(2, 1), 3);
    }

    private static void promise13RestoresWhatCameOut() {
        RisingPiles x = new RisingPiles();
        x.comeIn(6, 11);
        x.comeIn(70, 22);
        x.comeOut();
        x.comeOut();
        x.undo();
        int[] due = {0, 6, 11, 1};
        for (int what = 0; what < due.length; what++) {
            DUE.is("out(0, " + what + ")", x.out(0, what), due[what]);
        }
        DUE.is("out(1, 0)", x.out(1, 0), RisingPiles.NONE);
        DUE.is("entry(1, 1)", x.entry(1, 1), 22);
        x.takeBack(1);
        x.comeIn(8, 33);
        x.undo();
        x.undo();
        DUE.is("entry(1, 1) after another one was in its place", x.entry(1, 1), 22);
    }

    private static void promise14Keep() {
        RisingPiles x = new RisingPiles();
        DUE.is("keep() of none", x.keep(), 0);
        x.comeIn(1, 0);
        x.comeIn(2, 0);
        DUE.is("keep() in place of the one that was", x.keep(), 2);
        x.comeOut();
        DUE.is("restore()", x.restore(), 2);
        x.comeOut();
        x.comeOut();
        DUE.is("keep()", x.keep(), 0);
        DUE.is("came out", x.count(2), 2);
    }

    private static void promise15Restore() {
        RisingPiles x = new RisingPiles();
        DUE.is("restore() without a snapshot", x.restore(), RisingPiles.NONE);
        DUE.is("NONE records nothing", x.count(8), 0);
        x.comeIn(4, 0);
        x.road(3, 4, 5);
        x.keep();
        x.comeIn(5, 0);
        x.unroad(3, 4);
        x.comeOutUpTo(9);
        x.type('q');
        DUE.is("restore()", x.restore(), 1);
        DUE.is("recorded", x.count(8), 4);
        DUE.is("roadOf(3, 4)", x.roadOf(3, 4), 5);
        DUE.is("the floor", x.count(3), 0);
        DUE.is("the text stays", x.count(9), 1);
        x.comeOut();
        DUE.is("the snapshot stays", x.restore(), 1);
        DUE.is("undo()", x.undo(), 3);
        DUE.is("undo() of restore()", x.count(0), 0);
        DUE.is("undo()", x.undo(), 2);
        DUE.is("undo() does not touch the snapshot", x.restore(), 1);
        DUE.is("comeOut() of the restored one", x.comeOut(), 0);
    }
}

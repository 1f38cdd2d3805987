/** The program behind the Face of the document. */
final class Program implements Face {
    private final RisingPiles piles = new RisingPiles();

    @Override
    public int comeIn(int key, int value) {
        return piles.comeIn(key, value);
    }

    @Override
    public int comeOut() {
        return piles.comeOut();
    }

    @Override
    public int comeOutUpTo(int key) {
        return piles.comeOutUpTo(key);
    }

    @Override
    public int less(int entry, int key) {
        return piles.less(entry, key);
    }

    @Override
    public int takeBack(int entry) {
        return piles.takeBack(entry);
    }

    @Override
    public int road(int from, int to, int length) {
        return piles.road(from, to, length);
    }

    @Override
    public int unroad(int from, int to) {
        return piles.unroad(from, to);
    }

    @Override
    public int type(char character) {
        return piles.type(character);
    }

    @Override
    public int clearText() {
        return piles.clearText();
    }

    @Override
    public int perform() {
        return piles.perform();
    }

    @Override
    public int refusal(int what) {
        return piles.refusal(what);
    }

    @Override
    public int undo() {
        return piles.undo();
    }

    @Override
    public int keep() {
        return piles.keep();
    }

    @Override
    public int restore() {
        return piles.restore();
    }

    @Override
    public int entry(int entry, int what) {
        return piles.entry(entry, what);
    }

    @Override
    public int pile(int pile, int what) {
        return piles.pile(pile, what);
    }

    @Override
    public int next(int what) {
        return piles.next(what);
    }

    @Override
    public int ranked(int rank) {
        return piles.ranked(rank);
    }

    @Override
    public int movesLeft() {
        return piles.movesLeft();
    }

    @Override
    public int out(int back, int what) {
        return piles.out(back, what);
    }

    @Override
    public int roadOf(int from, int to) {
        return piles.roadOf(from, to);
    }

    @Override
    public int distance(int from, int to) {
        return piles.distance(from, to);
    }

    @Override
    public int search(int from, int what) {
        return piles.search(from, what);
    }

    @Override
    public int count(int what) {
        return piles.count(what);
    }
}

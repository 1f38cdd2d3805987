/** The document's methods, so that one test can be put to the program, to the model, and to models with a fault. */
interface Face {
    int comeIn(int key, int value);

    int comeOut();

    int comeOutUpTo(int key);

    int less(int entry, int key);

    int takeBack(int entry);

    int road(int from, int to, int length);

    int unroad(int from, int to);

    int type(char character);

    int clearText();

    int perform();

    int refusal(int what);

    int undo();

    int keep();

    int restore();

    int entry(int entry, int what);

    int pile(int pile, int what);

    int next(int what);

    int ranked(int rank);

    int movesLeft();

    int out(int back, int what);

    int roadOf(int from, int to);

    int distance(int from, int to);

    int search(int from, int what);

    int count(int what);
}

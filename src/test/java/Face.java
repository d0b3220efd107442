/** The document's face, so that the class and the model can take the same calls. */
interface Face {
    int word(int i, int v);

    void put(long key, int n);

    int get(long key);

    int got(int i);

    boolean delete(long key);

    int setOf(long key);

    int where(long key);

    int flash(int p, int i);

    void close();

    void crash();

    int open();

    int count(int what);
}

import java.util.Arrays;

/** A cache for very small objects on flash: a log in front of hashed pages. */
public final class TinyCache {
    public static final int NONE = -1;

    private static final int SETS = 64;
    private static final int LOG_PAGES = 32;
    private static final int SEGMENT_PAGES = 4;
    private static final int PAGE_WORDS = 32;
    private static final int HEADER_WORDS = 3;
    private static final int BUFFER_WORDS = 8;
    private static final int PAGE_ITEMS = PAGE_WORDS / (HEADER_WORDS + 1);
    private static final int SEGMENT_ITEMS = SEGMENT_PAGES * PAGE_ITEMS;
    private static final int INDEX_ITEMS = (LOG_PAGES + 1) * PAGE_ITEMS;

    private static final int NOWHERE = 0;
    private static final int IN_LOG = 1;
    private static final int IN_SET = 2;

    private static final int FULL_SEGMENTS = 0;
    private static final int MOVING_WRITES = 1;
    private static final int ALONE_WRITES = 2;
    private static final int DELETE_WRITES = 3;
    private static final int GATHERED = 4;
    private static final int DROPPED_UNMARKED = 5;
    private static final int DROPPED_MARKED = 6;
    private static final int DROPPED_GATHERED = 7;
    private static final int DROPPED_ALONE = 8;
    private static final int PAGES_READ = 9;
    private static final int PUT_ANEW = 10;
    private static final int IN_INDEX = 11;
    private static final int OPEN_WORDS = 12;

    private final int[] buffer = new int[BUFFER_WORDS];
    private final Page[] sets = newPages(SETS);
    private final Log log = new Log();
    private final int[] counts = new int[IN_INDEX];
    private final Item[] gathered = new Item[INDEX_ITEMS];
    private final Item[] anew = new Item[SEGMENT_ITEMS];
    private Item found = null;
    private boolean isOpen = true;

    public TinyCache() {
    }

    public int word(int i, int v) throws IndexOutOfBoundsException {
        if (i < 0 || i >= BUFFER_WORDS) {
            throw new IndexOutOfBoundsException();
        }
        int before = buffer[i];
        buffer[i] = v;
        return before;
    }

    public void put(long key, int n) throws IllegalStateException, IllegalArgumentException {
        refuseWhenClosed();
        if (n < 1 || n > BUFFER_WORDS) {
            throw new IllegalArgumentException();
        }
        Item item = new Item(key, Arrays.copyOf(buffer, n));
        // What is put anew is not got any more: once each segment was emptied the open
        // page stays empty, so far fewer writes than the bound are ever needed.
        for (int writes = 0; writes < LOG_PAGES && !log.hasRoomFor(item); writes++) {
            writeOpenPage();
        }
        log.append(item);
    }

    public int get(long key) throws IllegalStateException {
        refuseWhenClosed();
        found = log.index.find(key);
        if (found == null) {
            found = readFromSet(key);
        } else if (!log.hasInOpenPage(found)) {
            counts[PAGES_READ]++;
        }
        if (found == null) {
            return 0;
        }
        found.got = true;
        return found.value.length;
    }

    public int got(int i) throws IndexOutOfBoundsException {
        if (found == null || i < 0 || i >= found.value.length) {
            throw new IndexOutOfBoundsException();
        }
        return found.value[i];
    }

    public boolean delete(long key) throws IllegalStateException {
        refuseWhenClosed();
        boolean wasInLog = log.index.remove(key);
        boolean wasInSet = removeFromSet(key, DELETE_WRITES);
        return wasInLog || wasInSet;
    }

    public int setOf(long key) {
        return setNumber(mix(key));
    }

    public int where(long key) throws IllegalStateException {
        refuseWhenClosed();
        if (log.index.find(key) != null) {
            return IN_LOG;
        }
        return sets[setNumber(mix(key))].find(key) != null ? IN_SET : NOWHERE;
    }

    public int flash(int p, int i) throws IndexOutOfBoundsException {
        if (p < 0 || p >= SETS + LOG_PAGES || i < 0 || i >= PAGE_WORDS) {
            throw new IndexOutOfBoundsException();
        }
        return p < SETS ? sets[p].wordAt(i) : log.pages[p - SETS].wordAt(i);
    }

    public void close() throws IllegalStateException {
        refuseWhenClosed();
        isOpen = false;
    }

    public void crash() throws IllegalStateException {
        refuseWhenClosed();
        for (int set = 0; set < SETS; set++) {
            sets[set].wipe();
        }
        log.wipe();
        Arrays.fill(counts, 0);
        found = null;
        isOpen = false;
    }

    public int open() throws IllegalStateException {
        if (isOpen) {
            throw new IllegalStateException();
        }
        isOpen = true;
        return log.index.size;
    }

    public int count(int what) {
        if (what < 0 || what > OPEN_WORDS) {
            return NONE;
        }
        if (what == FULL_SEGMENTS) {
            return log.fullSegments();
        }
        if (what == IN_INDEX) {
            return log.index.size;
        }
        return what == OPEN_WORDS ? log.openPage.words : counts[what];
    }

    private void refuseWhenClosed() {
        if (!isOpen) {
            throw new IllegalStateException();
        }
    }

    // What is put anew came out of the segment's four pages, and the first of these takes
    // the old open page: the three others and the new open page always hold it, so that
    // no other segment has to be emptied here.
    private void writeOpenPage() {
        int anewCount = log.isBeforeWrittenSegment() ? emptySegment() : 0;
        log.writeOut();
        for (int i = 0; i < anewCount; i++) {
            if (!log.hasRoomFor(anew[i])) {
                log.writeOut();
            }
            log.append(anew[i]);
        }
        counts[PUT_ANEW] += anewCount;
    }

    // Those alone that were got are taken first, all at once: no other object shares
    // their sets, and so they come in the order of the log instead of that of the sets.
    private int emptySegment() {
        int end = log.oldestSegmentEnd();
        int anewCount = log.index.takeGotAlone(end, anew);
        long touched = log.index.setsBefore(end);
        for (int set = 0; set < SETS; set++) {
            if ((touched >>> set & 1L) == 0L) {
                continue;
            }
            int gatheredCount = log.index.takeSet(set, gathered);
            if (gatheredCount == 1) {
                counts[DROPPED_ALONE]++;
                removeFromSet(gathered[0].key, ALONE_WRITES);
            } else {
                moveGathered(sets[set], gatheredCount);
            }
        }
        return anewCount;
    }

    private void moveGathered(Page page, int gatheredCount) {
        counts[PAGES_READ]++;
        counts[GATHERED] += gatheredCount;
        int need = 0;
        for (int i = 0; i < gatheredCount; i++) {
            page.remove(gathered[i].key);
            need += gathered[i].words();
        }
        counts[DROPPED_UNMARKED] += page.dropFor(need, false);
        counts[DROPPED_MARKED] += page.dropFor(need, true);
        for (int i = 0; i < gatheredCount; i++) {
            if (page.hasRoomFor(need)) {
                page.add(gathered[i]);
            } else {
                counts[DROPPED_GATHERED]++;
            }
            need -= gathered[i].words();
        }
        page.clearMarks();
        counts[MOVING_WRITES]++;
    }

    private Item readFromSet(long key) {
        long mixed = mix(key);
        Page page = sets[setNumber(mixed)];
        if ((page.filter & filterBit(mixed)) == 0L) {
            return null;
        }
        counts[PAGES_READ]++;
        return page.find(key);
    }

    private boolean removeFromSet(long key, int whatIsCounted) {
        if (readFromSet(key) == null) {
            return false;
        }
        sets[setNumber(mix(key))].remove(key);
        counts[whatIsCounted]++;
        return true;
    }

    private static long mix(long key) {
        long z = (key ^ key >>> 30) * -4658895280553007687L;
        z = (z ^ z >>> 27) * -7723592293110705685L;
        return z ^ z >>> 31;
    }

    private static int setNumber(long mixed) {
        return (int) (mixed >>> 58);
    }

    private static long filterBit(long mixed) {
        return 1L << (int) (mixed & 63L);
    }

    private static Page[] newPages(int howMany) {
        Page[] pages = new Page[howMany];
        for (int p = 0; p < howMany; p++) {
            pages[p] = new Page();
        }
        return pages;
    }

    /**
     * What the document calls an object. A newer value is another item, so one item
     * may stand in several pages at once while only its newest place counts.
     */
    private static final class Item {
        final long key;
        final int[] value;
        final int set;
        final long bit;
        // The number of its log page, counted from the first one ever written.
        int logPage = 0;
        // Got since it came into the log, or, in a set's page, its mark.
        boolean got = false;

        Item(long key, int[] value) {
            long mixed = mix(key);
            this.key = key;
            this.value = value;
            this.set = setNumber(mixed);
            this.bit = filterBit(mixed);
        }

        int words() {
            return HEADER_WORDS + value.length;
        }

        int wordAt(int i) {
            switch (i) {
                case 0:
                    return value.length;
                case 1:
                    return (int) (key >>> 32);
                case 2:
                    return (int) key;
                default:
                    return value[i - HEADER_WORDS];
            }
        }
    }

    /** Items one behind the other; of the log's pages nobody asks the filter. */
    private static final class Page {
        final Item[] items = new Item[PAGE_ITEMS];
        int size = 0;
        int words = 0;
        long filter = 0L;

        boolean hasRoomFor(int more) {
            return words + more <= PAGE_WORDS;
        }

        void add(Item item) {
            items[size] = item;
            size++;
            words += item.words();
            filter |= item.bit;
        }

        Item find(long key) {
            int at = placeOf(key);
            return at == NONE ? null : items[at];
        }

        void remove(long key) {
            int at = placeOf(key);
            if (at != NONE) {
                removeAt(at);
            }
        }

        /** Drops the marked, or else the unmarked, until so many words more fit in: how many. */
        int dropFor(int more, boolean marked) {
            int before = size;
            int at = 0;
            for (int looked = 0; looked < before && !hasRoomFor(more); looked++) {
                if (items[at].got == marked) {
                    removeAt(at);
                } else {
                    at++;
                }
            }
            return before - size;
        }

        void clearMarks() {
            for (int i = 0; i < size; i++) {
                items[i].got = false;
            }
        }

        void wipe() {
            for (int i = 0; i < PAGE_ITEMS; i++) {
                items[i] = null;
            }
            size = 0;
            words = 0;
            filter = 0L;
        }

        int wordAt(int i) {
            int start = 0;
            for (int k = 0; k < size; k++) {
                int end = start + items[k].words();
                if (i < end) {
                    return items[k].wordAt(i - start);
                }
                start = end;
            }
            return 0;
        }

        private int placeOf(long key) {
            for (int i = 0; i < size; i++) {
                if (items[i].key == key) {
                    return i;
                }
            }
            return NONE;
        }

        private void removeAt(int at) {
            words -= items[at].words();
            size--;
            for (int i = at; i < size; i++) {
                items[i] = items[i + 1];
            }
            items[size] = null;
            filter = 0L;
            for (int i = 0; i < size; i++) {
                filter |= items[i].bit;
            }
        }
    }

    /** The newest item of each key of the log, in the order in which they came there. */
    private static final class Index {
        final Item[] items = new Item[INDEX_ITEMS];
        final int[] perSet = new int[SETS];
        int size = 0;

        Item find(long key) {
            for (int i = 0; i < size; i++) {
                if (items[i].key == key) {
                    return items[i];
                }
            }
            return null;
        }

        void add(Item item) {
            remove(item.key);
            items[size] = item;
            size++;
            perSet[item.set]++;
        }

        boolean remove(long key) {
            int kept = 0;
            int before = size;
            for (int i = 0; i < before; i++) {
                if (items[i].key == key) {
                    perSet[items[i].set]--;
                } else {
                    items[kept] = items[i];
                    kept++;
                }
            }
            shrinkTo(kept);
            return kept < before;
        }

        /** Takes out what was got, is alone in its set and stands before a log page: how many. */
        int takeGotAlone(int endPage, Item[] into) {
            int kept = 0;
            int taken = 0;
            for (int i = 0; i < size; i++) {
                Item item = items[i];
                if (item.got && item.logPage < endPage && perSet[item.set] == 1) {
                    into[taken] = item;
                    taken++;
                    perSet[item.set] = 0;
                } else {
                    items[kept] = item;
                    kept++;
                }
            }
            shrinkTo(kept);
            return taken;
        }

        /** Takes out all that is of a set: how many. */
        int takeSet(int set, Item[] into) {
            int kept = 0;
            int taken = 0;
            for (int i = 0; i < size; i++) {
                Item item = items[i];
                if (item.set == set) {
                    into[taken] = item;
                    taken++;
                } else {
                    items[kept] = item;
                    kept++;
                }
            }
            perSet[set] = 0;
            shrinkTo(kept);
            return taken;
        }

        /** The sets, a bit each, that have an item before a log page. */
        long setsBefore(int endPage) {
            long touched = 0L;
            for (int i = 0; i < size; i++) {
                if (items[i].logPage < endPage) {
                    touched |= 1L << items[i].set;
                }
            }
            return touched;
        }

        void wipe() {
            shrinkTo(0);
            Arrays.fill(perSet, 0);
        }

        private void shrinkTo(int newSize) {
            for (int i = newSize; i < size; i++) {
                items[i] = null;
            }
            size = newSize;
        }
    }

    /** The log's pages on flash, the open page and the index of both. */
    private static final class Log {
        final Page[] pages = newPages(LOG_PAGES);
        final Index index = new Index();
        Page openPage = new Page();
        // Pages written since the beginning, which is the number of the open page, too.
        int written = 0;

        boolean hasRoomFor(Item item) {
            return openPage.hasRoomFor(item.words());
        }

        boolean hasInOpenPage(Item item) {
            return item.logPage == written;
        }

        void append(Item item) {
            item.got = false;
            item.logPage = written;
            openPage.add(item);
            index.add(item);
        }

        boolean isBeforeWrittenSegment() {
            return written >= LOG_PAGES && written % SEGMENT_PAGES == 0;
        }

        /** The number of the first page behind the segment that is written next. */
        int oldestSegmentEnd() {
            return written - LOG_PAGES + SEGMENT_PAGES;
        }

        int fullSegments() {
            return written / SEGMENT_PAGES;
        }

        // The overwritten page becomes the open one, so that no page is ever made anew.
        void writeOut() {
            int place = written & (LOG_PAGES - 1);
            Page overwritten = pages[place];
            pages[place] = openPage;
            overwritten.wipe();
            openPage = overwritten;
            written++;
        }

        void wipe() {
            for (int p = 0; p < LOG_PAGES; p++) {
                pages[p].wipe();
            }
            openPage.wipe();
            index.wipe();
            written = 0;
        }
    }
}

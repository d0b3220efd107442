import java.util.ArrayList;
import java.util.Arrays;
import java.util.HashSet;
import java.util.LinkedHashMap;
import java.util.List;
import java.util.Map;
import java.util.Set;
import java.util.TreeMap;

/**
 * The document once more, as near to its words as can be: pages are words, and each object
 * is read out of them. Slow, and sharing nothing with the class that is tested.
 */
final class Model implements Face {
    private static final int OPEN = -1;

    private static final class Place {
        int page;
        int at;
        boolean got;
        long came;
    }

    int[] buffer = new int[8];
    int[][] pages = new int[96][32];
    int[] open = new int[32];
    int openWords = 0;
    int next = 0;
    boolean[] segmentWritten = new boolean[8];
    Map<Long, Place> index = new LinkedHashMap<>();
    List<Set<Long>> marks = new ArrayList<>();
    int[] counts = new int[11];
    int[] found = null;
    boolean closed = false;
    long clock = 0;
    int mostEmptiedByOnePut = 0;
    private int emptiedByThisPut = 0;

    Model() {
        for (int s = 0; s < 64; s++) {
            marks.add(new HashSet<>());
        }
    }

    @Override
    public int word(int i, int v) {
        refuseOutside(i, 0, 7);
        int before = buffer[i];
        buffer[i] = v;
        return before;
    }

    @Override
    public void put(long key, int n) {
        refuseIf(closed);
        if (n < 1 || n > 8) {
            throw new IllegalArgumentException();
        }
        int[] object = new int[3 + n];
        object[0] = n;
        object[1] = (int) (key >> 32);
        object[2] = (int) key;
        System.arraycopy(buffer, 0, object, 3, n);
        emptiedByThisPut = 0;
        come(object);
        mostEmptiedByOnePut = Math.max(mostEmptiedByOnePut, emptiedByThisPut);
    }

    @Override
    public int get(long key) {
        refuseIf(closed);
        Place place = index.get(key);
        found = null;
        if (place != null) {
            place.got = true;
            if (place.page != OPEN) {
                counts[9]++;
            }
            found = valueOf(objectAt(place));
            return found.length;
        }
        int set = Keys.set(key);
        if (filterHas(key)) {
            counts[9]++;
            for (int[] object : objectsOf(pages[set])) {
                if (keyOf(object) == key) {
                    marks.get(set).add(key);
                    found = valueOf(object);
                }
            }
        }
        return found == null ? 0 : found.length;
    }

    @Override
    public int got(int i) {
        refuseOutside(i, 0, found == null ? -1 : found.length - 1);
        return found[i];
    }

    @Override
    public boolean delete(long key) {
        refuseIf(closed);
        boolean was = index.remove(key) != null;
        return takeFromPage(key, 3) || was;
    }

    @Override
    public int setOf(long key) {
        return Keys.set(key);
    }

    @Override
    public int where(long key) {
        refuseIf(closed);
        if (index.containsKey(key)) {
            return 1;
        }
        return pageHas(key) ? 2 : 0;
    }

    @Override
    public int flash(int p, int i) {
        refuseOutside(p, 0, 95);
        refuseOutside(i, 0, 31);
        return pages[p][i];
    }

    @Override
    public void close() {
        refuseIf(closed);
        closed = true;
    }

    @Override
    public int open() {
        refuseIf(!closed);
        closed = false;
        return index.size();
    }

    @Override
    public int count(int what) {
        return what == 11 ? index.size() : what == 12 ? openWords : what < 0 || what > 12 ? -1 : counts[what];
    }

    @Override
    public void crash() {
        refuseIf(closed);
        Model empty = new Model();
        pages = empty.pages;
        open = empty.open;
        openWords = 0;
        next = 0;
        segmentWritten = empty.segmentWritten;
        index = empty.index;
        marks = empty.marks;
        counts = empty.counts;
        found = null;
        closed = true;
    }

    private static void refuseIf(boolean wrongState) {
        if (wrongState) {
            throw new IllegalStateException();
        }
    }

    private static void refuseOutside(int i, int first, int last) {
        if (i < first || i > last) {
            throw new IndexOutOfBoundsException();
        }
    }

    private void come(int[] object) {
        while (openWords + object.length > 32) {
            writeOpenPage();
        }
        Place place = new Place();
        place.page = OPEN;
        place.at = openWords;
        place.came = clock++;
        System.arraycopy(object, 0, open, openWords, object.length);
        openWords += object.length;
        index.remove(keyOf(object));
        index.put(keyOf(object), place);
    }

    private void writeOpenPage() {
        int segment = next / 4;
        List<int[]> anew = new ArrayList<>();
        if (next % 4 == 0 && segmentWritten[segment]) {
            anew = empty(segment);
        }
        pages[64 + next] = open;
        for (Place place : index.values()) {
            if (place.page == OPEN) {
                place.page = 64 + next;
            }
        }
        open = new int[32];
        openWords = 0;
        if (next % 4 == 3) {
            counts[0]++;
            segmentWritten[segment] = true;
        }
        next = (next + 1) % 32;
        for (int[] object : anew) {
            counts[10]++;
            come(object);
        }
    }

    private List<int[]> empty(int segment) {
        emptiedByThisPut++;
        TreeMap<Long, int[]> anew = new TreeMap<>();
        for (int set = 0; set < 64; set++) {
            List<Long> gathered = new ArrayList<>();
            boolean touched = false;
            for (Map.Entry<Long, Place> entry : index.entrySet()) {
                if (Keys.set(entry.getKey()) == set) {
                    gathered.add(entry.getKey());
                    int page = entry.getValue().page;
                    touched |= page != OPEN && (page - 64) / 4 == segment;
                }
            }
            if (touched && gathered.size() > 1) {
                move(set, gathered);
            } else if (touched) {
                Place place = index.get(gathered.get(0));
                int[] object = objectAt(place);
                index.remove(gathered.get(0));
                if (place.got) {
                    anew.put(place.came, object);
                } else {
                    counts[8]++;
                    takeFromPage(gathered.get(0), 2);
                }
            }
        }
        return new ArrayList<>(anew.values());
    }

    private void move(int set, List<Long> keys) {
        counts[9]++;
        counts[4] += keys.size();
        List<int[]> gathered = new ArrayList<>();
        for (long key : keys) {
            gathered.add(objectAt(index.remove(key)));
        }
        List<int[]> unmarked = new ArrayList<>();
        List<int[]> marked = new ArrayList<>();
        List<int[]> left = new ArrayList<>();
        for (int[] object : objectsOf(pages[set])) {
            if (!keys.contains(keyOf(object))) {
                left.add(object);
                (marks.get(set).contains(keyOf(object)) ? marked : unmarked).add(object);
            }
        }
        left.addAll(gathered);
        List<List<int[]>> kinds = Arrays.asList(unmarked, marked, gathered);
        for (int kind = 0; kind < 3; kind++) {
            for (int[] object : kinds.get(kind)) {
                if (wordsOf(left) > 32) {
                    left.remove(object);
                    counts[5 + kind]++;
                }
            }
        }
        pages[set] = pageOf(left);
        marks.get(set).clear();
        counts[1]++;
    }

    private boolean takeFromPage(long key, int what) {
        if (!filterHas(key)) {
            return false;
        }
        counts[9]++;
        if (!pageHas(key)) {
            return false;
        }
        int set = Keys.set(key);
        List<int[]> left = new ArrayList<>();
        for (int[] object : objectsOf(pages[set])) {
            if (keyOf(object) != key) {
                left.add(object);
            }
        }
        pages[set] = pageOf(left);
        marks.get(set).remove(key);
        counts[what]++;
        return true;
    }

    private boolean filterHas(long key) {
        for (int[] object : objectsOf(pages[Keys.set(key)])) {
            if (Keys.bit(keyOf(object)) == Keys.bit(key)) {
                return true;
            }
        }
        return false;
    }

    private boolean pageHas(long key) {
        for (int[] object : objectsOf(pages[Keys.set(key)])) {
            if (keyOf(object) == key) {
                return true;
            }
        }
        return false;
    }

    private int[] objectAt(Place place) {
        int[] page = place.page == OPEN ? open : pages[place.page];
        return Arrays.copyOfRange(page, place.at, place.at + 3 + page[place.at]);
    }

    private static List<int[]> objectsOf(int[] page) {
        List<int[]> objects = new ArrayList<>();
        int at = 0;
        while (at < 32 && page[at] != 0) {
            objects.add(Arrays.copyOfRange(page, at, at + 3 + page[at]));
            at += 3 + page[at];
        }
        return objects;
    }

    private static int[] pageOf(List<int[]> objects) {
        int[] page = new int[32];
        int at = 0;
        for (int[] object : objects) {
            System.arraycopy(object, 0, page, at, object.length);
            at += object.length;
        }
        return page;
    }

    private static int wordsOf(List<int[]> objects) {
        int words = 0;
        for (int[] object : objects) {
            words += object.length;
        }
        return words;
    }

    private static long keyOf(int[] object) {
        return (long) object[1] << 32 | object[2] & 0xffffffffL;
    }

    private static int[] valueOf(int[] object) {
        return Arrays.copyOfRange(object, 3, object.length);
    }
}

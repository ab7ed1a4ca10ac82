import java.util.Arrays;
import java.util.TreeSet;

/** Checks of the sentences that name a boundary, each by its promise's number and the document's words. */
final class Edges {
    static final int LEAST = Integer.MIN_VALUE;
    static final int MOST = Integer.MAX_VALUE;
    static final int FAR = -1000000000;

    /** The least number of each SORT: it tells a MISSING HALL. */
    static final int[] LEAST_OF_SORT = {-128, -32768, LEAST};

    private final Checks checks;
    private final TreeSet<Integer> promises = new TreeSet<>();

    Edges(String name) {
        checks = new Checks(name);
    }

    void sentence(int promise, String words) {
        promises.add(promise);
        checks.part("promise " + promise + ", \"" + words + "\"");
    }

    void due(String call, long got, long want) {
        checks.due(call, got, want);
    }

    /** Each promise from one to another has had a sentence, but for those that name none. */
    void end(int firstPromise, int lastPromise, Integer... without) {
        for (int promise = firstPromise; promise <= lastPromise; promise++) {
            checks.part("promise " + promise);
            boolean has = promises.contains(promise);
            checks.holds("a sentence of its own", has != Arrays.asList(without).contains(promise));
        }
        checks.end();
    }

    /** So many HALLS of the HILLS, KIN 0 and DISTRICT 0, with LISTS of 999. */
    static HallSheets halls(int n) {
        HallSheets x = new HallSheets();
        for (int h = 0; h < n; h++) {
            x.hall(999, 0, 0);
        }
        return x;
    }

    /** HALLS of which these CAME and OURS are WRITTEN; of a CAME below 0 one is MISSING. */
    static HallSheets written(int[] came, int[] ours) {
        return write(halls(came.length), came, ours);
    }

    /** Hears CAME and OURS by the SHELVES 6 and 7. */
    static HallSheets write(HallSheets x, int[] came, int[] ours) {
        x.row(6, 2, came.length);
        x.row(7, 2, ours.length);
        for (int h = 0; h < came.length; h++) {
            x.put(6, h, came[h] < 0 ? LEAST : came[h]);
            x.put(7, h, ours[h]);
        }
        x.hear(6, 7);
        return x;
    }

    /** HALLS with CAME 100, so that OURS are their SHARES. */
    static HallSheets shares(int... ours) {
        int[] came = new int[ours.length];
        for (int h = 0; h < ours.length; h++) {
            came[h] = 100;
        }
        return written(came, ours);
    }

    /** One HALL of which TRULY these CAME and chose. */
    static HallSheets hall(int list, int came, int ours) {
        HallSheets x = new HallSheets();
        x.hall(list, 0, 0);
        x.truly(0, came, ours);
        return x;
    }

    static int[] repeated(int n, int value) {
        int[] all = new int[n];
        for (int i = 0; i < n; i++) {
            all[i] = value;
        }
        return all;
    }

    /** 1: IllegalArgumentException, 2: IllegalStateException, 0: nothing was thrown, 3: something else. */
    static int thrownBy(HallSheets x, int d, int i) {
        try {
            x.element(d, i);
            return 0;
        } catch (RuntimeException e) {
            return e.getClass() == IllegalArgumentException.class ? 1 : e.getClass() == IllegalStateException.class ? 2 : 3;
        }
    }
}

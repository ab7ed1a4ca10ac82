/** The boundaries that promises 37 to 43 name: shelves. */
public final class ShelfEdgesTest {
    private static final int LEAST = Edges.LEAST;
    private static final int MOST = Edges.MOST;
    private static final int[] NO_SHELVES = {-1, 8, LEAST, MOST};
    private static final Edges EDGES = new Edges("ShelfEdgesTest");

    private ShelfEdgesTest() {
    }

    public static void main(String[] args) {
        keepRefusals();
        keep();
        rowRefusals();
        rowSizes();
        putPlaces();
        putBits();
        elements();
        copyRefusals();
        copyPlaces();
        copyOntoItself();
        sheetRefusals();
        weights();
        tosses();
        failures();
        tossedThen();
        EDGES.end(37, 43);
    }

    private static void due(String call, long got, long want) {
        EDGES.due(call, got, want);
    }

    private static void keepRefusals() {
        EDGES.sentence(37, "what = 0 nothing; 1 the SHEET of HALL k: 0. -1.");
        HallSheets x = Edges.halls(30);
        for (int d : NO_SHELVES) {
            due("keep(" + d + ", 0, 0)", x.keep(d, 0, 0), -1);
            due("keep(" + d + ", 1, 0)", x.keep(d, 1, 0), -1);
        }
        for (int what : new int[] {-1, 2, LEAST, MOST}) {
            due("keep(0, " + what + ", 0)", x.keep(0, what, 0), -1);
        }
        for (int k : new int[] {-1, 30, LEAST, MOST}) {
            due("keep(0, 1, " + k + ")", x.keep(0, 1, k), -1);
        }
        due("HALL 0 of none", new HallSheets().keep(0, 1, 0), -1);
        due("nothing is held by these", x.weight(0), -11);
        due("the least SHELF, HALL 0", x.keep(0, 1, 0), 0);
        due("the last SHELF, HALL 29", x.keep(7, 1, 29), 0);
        due("weight(0)", x.weight(0), 10);
        due("weight(7)", x.weight(7), 10);
    }

    private static void keep() {
        EDGES.sentence(37, "nothing (the others do not matter)");
        HallSheets x = Edges.hall(50, 40, 30);
        x.keep(0, 1, 0);
        x.row(1, 0, 5);
        for (int k : new int[] {-1, 0, 1, 30, LEAST, MOST}) {
            due("keep(0, 0, " + k + ")", x.keep(0, 0, k), 0);
        }
        due("nothing in place of a SHEET", x.weight(0), -11);
        due("nothing in place of a ROW", x.keep(1, 0, 7) + x.put(1, 0, 0), -11);
        due("nothing in place of nothing", x.keep(5, 0, 7) + x.weight(5), -11);
        due("without any HALLS", new HallSheets().keep(7, 0, 0), 0);
        EDGES.sentence(37, "the SHEET of HALL k (as now)");
        x.sheet(0, 4, 8);
        due("keep", x.keep(2, 1, 0), 0);
        x.sheet(0, 6, 0);
        due("KIND and NUMBER as they were", x.weight(2), 19);
        due("keep anew", x.keep(2, 1, 0), 0);
        due("KIND as now", x.weight(2), 22);
        x.row(2, 0, 1);
        due("a ROW in place of a SHEET", x.weight(2), -12);
        x.keep(2, 1, 0);
        due("a SHEET in place of a ROW", x.put(2, 0, 1), -12);
    }

    private static void rowRefusals() {
        EDGES.sentence(38, "a ROW of a SORT: 0. -1 (n above 80); -14.");
        HallSheets x = new HallSheets();
        for (int d : NO_SHELVES) {
            due("row(" + d + ", 0, 1)", x.row(d, 0, 1), -1);
            due("-1 ahead of -14", x.row(d, 0, -1), -1);
        }
        for (int sort : new int[] {-1, 3, LEAST, MOST}) {
            due("row(0, " + sort + ", 1)", x.row(0, sort, 1), -1);
            due("-1 ahead of -14", x.row(0, sort, -1), -1);
        }
        for (int n : new int[] {81, 82, MOST}) {
            due("row(0, 0, " + n + ")", x.row(0, 0, n), -1);
        }
        for (int n : new int[] {-1, -2, LEAST}) {
            due("row(0, 0, " + n + ")", x.row(0, 0, n), -14);
            due("row(7, 2, " + n + ")", x.row(7, 2, n), -14);
        }
        due("nothing is held by these", x.put(0, 0, 0), -11);
    }

    private static void rowSizes() {
        EDGES.sentence(38, "0 .. 80 elements, 0 at first");
        HallSheets x = new HallSheets();
        for (int sort = 0; sort <= 2; sort++) {
            due("80", x.row(sort, sort, 80), 0);
            for (int i = 0; i < 80; i++) {
                due("element " + i, x.element(sort, i), 0);
            }
            due("the last place", x.put(sort, 79, -1), 0);
            due("one behind it", x.put(sort, 80, -1), -13);
        }
        due("1", x.row(0, 0, 1), 0);
        due("its place", x.put(0, 0, 5), 0);
        due("one behind it", x.put(0, 1, 5), -13);
        due("0", x.row(0, 0, 0), 0);
        due("no place", x.put(0, 0, 5), -13);
        due("80 again", x.row(0, 0, 80), 0);
        due("0 at first", x.element(0, 0), 0);
        due("0 at first", x.element(0, 79), 0);
        due("SHELF 7", x.row(7, 1, 80), 0);
    }

    private static void putPlaces() {
        EDGES.sentence(39, "Element i of the ROW becomes v: 0. -1, -11, -12, -13.");
        HallSheets x = Edges.halls(1);
        x.keep(1, 1, 0);
        x.row(2, 0, 3);
        x.row(3, 0, 0);
        for (int d : NO_SHELVES) {
            due("put(" + d + ", 0, 0)", x.put(d, 0, 0), -1);
            due("-1 ahead of -13", x.put(d, -1, 0), -1);
        }
        due("nothing", x.put(0, 0, 0), -11);
        due("-11 ahead of -13", x.put(0, -1, 0), -11);
        due("a SHEET", x.put(1, 0, 0), -12);
        due("-12 ahead of -13", x.put(1, 3, 0), -12);
        for (int i : new int[] {-1, 3, 80, LEAST, MOST}) {
            due("put(2, " + i + ", 9)", x.put(2, i, 9), -13);
            due("put(3, " + i + ", 9)", x.put(3, i, 9), -13);
        }
        due("an empty ROW", x.put(3, 0, 9), -13);
        for (int i = 0; i < 3; i++) {
            due("element " + i, x.element(2, i), 0);
            due("put(2, " + i + ", ..)", x.put(2, i, i + 5), 0);
        }
        for (int i = 0; i < 3; i++) {
            due("element " + i, x.element(2, i), i + 5);
        }
    }

    private static void putBits() {
        EDGES.sentence(39, "what is put in keeps its lowest bits");
        int[] values = {0, 1, -1, 127, 128, -128, -129, 255, 256, -256, 257, 32767, 32768, -32768, -32769, 65535, 65536, 65537,
            MOST, LEAST, MOST - 1, LEAST + 1};
        HallSheets x = new HallSheets();
        for (int sort = 0; sort <= 2; sort++) {
            x.row(sort, sort, 2);
        }
        for (int v : values) {
            long rest = v;
            long inByte = Math.floorMod(rest + 128, 256) - 128;
            long inShort = Math.floorMod(rest + 32768, 65536) - 32768;
            for (int sort = 0; sort <= 2; sort++) {
                due("put(" + sort + ", 1, " + v + ")", x.put(sort, 1, v), 0);
            }
            due(v + " in bytes", x.element(0, 1), inByte);
            due(v + " in shorts", x.element(1, 1), inShort);
            due(v + " in ints", x.element(2, 1), v);
        }
    }

    private static void elements() {
        EDGES.sentence(40, "IllegalArgumentException: no such SHELF; IllegalStateException: no ROW, no such place");
        HallSheets x = Edges.halls(1);
        x.keep(1, 1, 0);
        x.row(2, 0, 3);
        x.row(3, 0, 0);
        x.row(7, 2, 80);
        for (int d : NO_SHELVES) {
            for (int i : new int[] {0, -1, 80, LEAST, MOST}) {
                due("element(" + d + ", " + i + ")", Edges.thrownBy(x, d, i), 1);
            }
        }
        for (int i : new int[] {0, -1, 80, LEAST, MOST}) {
            due("nothing, " + i, Edges.thrownBy(x, 0, i), 2);
            due("a SHEET, " + i, Edges.thrownBy(x, 1, i), 2);
            due("an empty ROW, " + i, Edges.thrownBy(x, 3, i), 2);
        }
        due("place -1", Edges.thrownBy(x, 2, -1), 2);
        due("place 0", Edges.thrownBy(x, 2, 0), 0);
        due("place 2", Edges.thrownBy(x, 2, 2), 0);
        due("place 3", Edges.thrownBy(x, 2, 3), 2);
        due("place 79", Edges.thrownBy(x, 7, 79), 0);
        due("place 80", Edges.thrownBy(x, 7, 80), 2);
        x.keep(2, 0, 0);
        due("nothing any more", Edges.thrownBy(x, 2, 0), 2);
    }

    private static void copyRefusals() {
        EDGES.sentence(41, "-1, -11 (either), -12 (no ROWS of one SORT), -13");
        HallSheets x = Edges.halls(1);
        x.keep(1, 1, 0);
        x.row(2, 0, 3);
        x.row(3, 1, 3);
        x.row(4, 2, 3);
        x.row(7, 0, 3);
        for (int d : NO_SHELVES) {
            due("from SHELF " + d, x.copy(d, 0, 2, 0, 1), -1);
            due("to SHELF " + d, x.copy(2, 0, d, 0, 1), -1);
            due("-1 ahead of -11", x.copy(0, 0, d, 0, 1), -1);
            due("-1 ahead of -11", x.copy(d, 0, 0, 0, 1), -1);
            due("-1 ahead of -12", x.copy(1, 0, d, 0, 1), -1);
            due("-1 ahead of -13", x.copy(2, 9, d, 0, 1), -1);
        }
        due("from nothing", x.copy(0, 0, 2, 0, 1), -11);
        due("to nothing", x.copy(2, 0, 0, 0, 1), -11);
        due("-11 ahead of -12", x.copy(1, 0, 0, 0, 1), -11);
        due("-11 ahead of -12", x.copy(0, 0, 1, 0, 1), -11);
        due("-11 ahead of -13", x.copy(0, 9, 2, 9, -1), -11);
        due("from a SHEET", x.copy(1, 0, 2, 0, 1), -12);
        due("to a SHEET", x.copy(2, 0, 1, 0, 1), -12);
        for (int d = 2; d <= 4; d++) {
            for (int e = 2; e <= 4; e++) {
                due("SORTS " + (d - 2) + ", " + (e - 2), x.copy(d, 0, e, 0, 1), d == e ? 1 : -12);
                due("-12 ahead of -13", x.copy(d, 3, e, 0, 1), d == e ? -13 : -12);
            }
        }
        due("to SHELF 7", x.copy(2, 0, 7, 0, 3), 3);
        due("from SHELF 7", x.copy(7, 0, 2, 0, 3), 3);
    }

    private static void copyPlaces() {
        EDGES.sentence(41, "-13 a place that isn't there");
        HallSheets x = new HallSheets();
        Checks.numbers(x, 0, 2, 1, 2, 3, 4, 5);
        Checks.numbers(x, 1, 2, 7, 8, 9);
        int[][] bad = {{-1, 0, 1}, {0, -1, 1}, {5, 0, 1}, {0, 3, 1}, {4, 0, 2}, {0, 2, 2}, {0, 0, 4}, {2, 0, 4}, {0, 0, -1},
            {5, 3, -1}, {6, 0, 0}, {0, 4, 0}, {-1, 0, 0}, {0, -1, 0}, {MOST, 0, 1}, {0, MOST, 1}, {1, 0, MOST}, {MOST, 0, MOST},
            {0, MOST, MOST}, {LEAST, 0, 1}, {0, LEAST, 1}, {0, 0, LEAST}, {LEAST, LEAST, LEAST}, {1, 1, LEAST}, {-1, -1, 2}};
        for (int[] c : bad) {
            due("copy(0, " + c[0] + ", 1, " + c[1] + ", " + c[2] + ")", x.copy(0, c[0], 1, c[1], c[2]), -13);
        }
        same(x, 1, 7, 8, 9);
        due("none, behind both ends", x.copy(0, 5, 1, 3, 0), 0);
        due("the last of each", x.copy(0, 4, 1, 2, 1), 1);
        same(x, 1, 7, 8, 5);
        due("the first of each", x.copy(0, 0, 1, 0, 1), 1);
        same(x, 1, 1, 8, 5);
        due("a whole ROW", x.copy(0, 2, 1, 0, 3), 3);
        same(x, 1, 3, 4, 5);
        x.row(2, 2, 0);
        due("none of an empty ROW", x.copy(2, 0, 2, 0, 0), 0);
        due("one of an empty ROW", x.copy(2, 0, 1, 0, 1), -13);
        due("one to an empty ROW", x.copy(1, 0, 2, 0, 1), -13);
        x.row(3, 2, 80);
        x.row(4, 2, 80);
        x.put(3, 79, 6);
        due("80 elements", x.copy(3, 0, 4, 0, 80), 80);
        due("element 79", x.element(4, 79), 6);
        due("81 elements", x.copy(3, 0, 4, 0, 81), -13);
    }

    private static void same(HallSheets x, int d, int... due) {
        for (int i = 0; i < due.length; i++) {
            due("element " + i + " of SHELF " + d, x.element(d, i), due[i]);
        }
    }

    private static void copyOntoItself() {
        EDGES.sentence(41, "n elements of the ROW in SHELF d .. come to that in SHELF e: n");
        HallSheets x = new HallSheets();
        Checks.numbers(x, 0, 0, 1, 2, 3, 4, 5);
        due("upwards", x.copy(0, 0, 0, 1, 4), 4);
        same(x, 0, 1, 1, 2, 3, 4);
        due("downwards", x.copy(0, 2, 0, 0, 3), 3);
        same(x, 0, 2, 3, 4, 3, 4);
        due("onto itself", x.copy(0, 0, 0, 0, 5), 5);
        same(x, 0, 2, 3, 4, 3, 4);
        due("one too far", x.copy(0, 0, 0, 1, 5), -13);
        same(x, 0, 2, 3, 4, 3, 4);
    }

    private static void sheetRefusals() {
        HallSheets x = Edges.halls(1);
        x.row(1, 0, 3);
        x.row(2, 2, 0);
        x.keep(7, 1, 0);
        EDGES.sentence(42, "-1, -11, -12 (a ROW)");
        for (int d : NO_SHELVES) {
            due("weight(" + d + ")", x.weight(d), -1);
        }
        due("nothing", x.weight(0), -11);
        due("a ROW", x.weight(1), -12);
        due("an empty ROW", x.weight(2), -12);
        due("SHELF 7", x.weight(7), 10);
        EDGES.sentence(43, "-1, -11, -12 (a ROW); -15");
        for (int d : NO_SHELVES) {
            due("toss(" + d + ")", x.toss(d), -1);
        }
        due("nothing", x.toss(0), -11);
        due("a ROW", x.toss(1), -12);
        due("an empty ROW", x.toss(2), -12);
        due("nobody CAME", x.toss(7), -15);
    }

    private static void weights() {
        EDGES.sentence(42, "WEIGHT of a HALL's SHEET");
        int[] without = {10, 11, 15, 20, 11, 10, 22, 7};
        int[] with999 = {10, 11, 15, 1019, 1010, 2008, 22, 7};
        HallSheets x = Edges.halls(1);
        for (int kind = 0; kind <= 7; kind++) {
            x.sheet(0, kind, 0);
            x.keep(0, 1, 0);
            due("KIND " + kind + ", NUMBER 0", x.weight(0), without[kind]);
            x.sheet(0, kind, 999);
            x.keep(0, 1, 0);
            due("KIND " + kind + ", NUMBER 999", x.weight(0), with999[kind]);
        }
        HallSheets y = Edges.halls(1);
        y.keep(0, 1, 0);
        due("a SHEET as at first", y.weight(0), 10);
    }

    private static void tosses() {
        EDGES.sentence(43, "its HALL; of STUFFED ones 100 more; of COPIED ones 200 more; of MADE ones NUMBER in place of that");
        HallSheets x = Edges.halls(30);
        for (int h : new int[] {0, 29}) {
            x.truly(h, 1, 0);
            int[] due = {h, h, h, 0, h + 100, h, -15, h + 200};
            for (int kind = 0; kind <= 7; kind++) {
                x.sheet(h, kind, 0);
                x.keep(7, 1, h);
                due("KIND " + kind + " of HALL " + h, x.toss(7), due[kind]);
                x.sheet(h, kind, 999);
                x.keep(7, 1, h);
                due("KIND " + kind + " of HALL " + h + " by 999", x.toss(7), kind == 3 ? 999 : due[kind]);
            }
        }
    }

    private static void failures() {
        EDGES.sentence(43, "-15: BOSSED ones, and any of a HALL in which TRULY nobody CAME then, have none");
        for (int kind = 0; kind <= 7; kind++) {
            HallSheets x = Edges.halls(1);
            x.sheet(0, kind, 5);
            x.keep(0, 1, 0);
            due("KIND " + kind + ", nobody CAME", x.toss(0), -15);
            x.truly(0, 1, 0);
            x.keep(1, 1, 0);
            due("KIND " + kind + ", one CAME", x.toss(1) == -15 ? 1 : 0, kind == 6 ? 1 : 0);
            x.send(0);
            x.truly(0, 0, 0);
            x.keep(2, 1, 0);
            due("KIND " + kind + ", one is WRITTEN", x.toss(2), -15);
        }
    }

    private static void tossedThen() {
        EDGES.sentence(43, "nobody CAME then: as it was when the SHEET was kept");
        HallSheets x = Edges.hall(50, 1, 0);
        x.keep(0, 1, 0);
        x.truly(0, 0, 0);
        x.keep(1, 1, 0);
        due("one CAME then", x.toss(0), 0);
        due("nobody CAME then", x.toss(1), -15);
        x.truly(0, 50, 50);
        due("nobody CAME then, many now", x.toss(1), -15);
        due("once more", x.toss(0), 0);
        EDGES.sentence(43, "its HALL, RESTORED away");
        HallSheets y = new HallSheets();
        y.image();
        y.hall(5, 0, 0);
        y.hall(5, 0, 0);
        y.truly(1, 5, 5);
        y.sheet(1, 7, 0);
        y.keep(0, 1, 1);
        y.restore();
        due("its number", y.toss(0), 201);
        due("its WEIGHT", y.weight(0), 7);
    }
}

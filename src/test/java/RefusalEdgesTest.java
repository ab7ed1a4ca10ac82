import java.util.ArrayList;
import java.util.List;

/** That a refused call of any promise answers as told, and changes nothing that any call could show. */
public final class RefusalEdgesTest {
    private static final int LEAST = Edges.LEAST;
    private static final int MOST = Edges.MOST;
    private static final int FAR = Edges.FAR;
    private static final int[] NO_SHELVES = {-1, 8, LEAST, MOST};
    private static final int[] NO_HALLS = {-1, 4, 30, LEAST, MOST};
    private static final Edges EDGES = new Edges("RefusalEdgesTest");

    /** SHELVES of the furnished object: nothing, a SHEET, texts without and with a FAULT, other ROWS. */
    private static final int NOTHING = 0;
    private static final int SHEET = 1;
    private static final int GOOD_TEXT = 2;
    private static final int BAD_TEXT = 3;
    private static final int SHORTS = 4;
    private static final int INTS = 5;
    private static final int EMPTY = 6;
    private static final int OTHER_INTS = 7;

    private interface Call {
        long on(HallSheets x);
    }

    private final HallSheets made;
    private final List<Long> seen = new ArrayList<>();

    private RefusalEdgesTest(HallSheets made) {
        this.made = made;
    }

    public static void main(String[] args) {
        hallCalls();
        figureCalls();
        cloudCalls();
        sumCalls();
        landCalls();
        markCalls();
        shelfCalls();
        copyCalls();
        fullCalls();
        EDGES.end(2, 43, 22, 23, 29, 34);
    }

    /** An object with something of all there is, and THE IMAGE of an earlier state. */
    private static HallSheets furnished() {
        HallSheets x = new HallSheets();
        x.hall(300, 1210, 96);
        x.hall(200, 210, 95);
        x.truly(0, 250, 137);
        x.send(0);
        Checks.text(x, GOOD_TEXT, "B:c>0").mark(GOOD_TEXT);
        x.up(0, 9, 9);
        x.image();
        x.hall(150, 1030, 20);
        x.hall(90, 500, 0);
        x.truly(1, 180, 171);
        x.truly(2, 111, 55);
        x.truly(3, 80, 20);
        x.sheet(0, 2, 1);
        x.sheet(1, 4, 30);
        x.sheet(2, 3, 61);
        x.sheet(3, 7, 4);
        x.send(0);
        x.send(1);
        x.send(2);
        x.watch(1, true);
        x.watch(3, true);
        for (int what = 0; what <= 9; what++) {
            x.set(what, 3 + what / 2);
        }
        x.up(1, 500, 400);
        x.up(3, 60, 10);
        Checks.text(x, GOOD_TEXT, "A:h=1").mark(GOOD_TEXT);
        x.keep(SHEET, 1, 3);
        Checks.text(x, BAD_TEXT, "C:c==");
        Checks.numbers(x, SHORTS, 1, 5, -32768, 7);
        Checks.numbers(x, INTS, 2, 50, 60, 70, 80);
        x.row(EMPTY, 2, 0);
        Checks.numbers(x, OTHER_INTS, 2, 3, 2);
        return x;
    }

    /** All HALLS, all MARKS, and 15 HALLS that aren't MISSING. */
    private static HallSheets full() {
        HallSheets x = new HallSheets();
        x.image();
        for (int h = 0; h < 30; h++) {
            x.hall(40 + h, h % 2 * 1000 + h % 6 * 100 + h % 4 * 10, h);
        }
        for (int h = 10; h < 25; h++) {
            x.truly(h, 40, h);
            x.send(h);
        }
        x.watch(11, true);
        Checks.text(x, GOOD_TEXT, "A:c<o+20");
        for (int m = 0; m < 10; m++) {
            x.mark(GOOD_TEXT);
        }
        x.keep(SHEET, 1, 29);
        Checks.text(x, BAD_TEXT, "C:c==");
        Checks.numbers(x, SHORTS, 1, 5);
        return x;
    }

    private static HallSheets withNothing() {
        return new HallSheets();
    }

    /** What any call answers now, then once more of THE IMAGE. */
    private List<Long> all() {
        shelves();
        state();
        seen.add((long) made.restore());
        state();
        return seen;
    }

    private void state() {
        int halls = made.count(0);
        for (int what = 0; what <= 6; what++) {
            seen.add((long) made.count(what));
        }
        for (int h = 0; h < halls; h += halls > 10 ? 7 : 1) {
            hall(h);
        }
        for (int what = 0; what <= 9; what++) {
            int law = made.set(what, 1);
            made.set(what, law);
            seen.add((long) law);
        }
        for (int district = 0; district < 4; district++) {
            for (int what = 0; what < 4; what++) {
                seen.add((long) made.sum(district, what));
            }
        }
        for (int district = 0; district < 4; district++) {
            seen.add((long) made.down(district));
        }
        for (int what = 0; what <= 4; what++) {
            seen.add((long) made.measure(what));
        }
        for (int name = 'A'; name <= 'C'; name++) {
            seen.add((long) made.said(name, 1));
        }
    }

    private void hall(int h) {
        for (int what = 0; what <= 8; what++) {
            seen.add((long) made.of(h, what));
        }
        int otherwise = made.watch(h, true);
        seen.add((long) otherwise);
        if (otherwise == 1) {
            made.watch(h, false);
        }
        seen.add((long) made.marked(h));
        seen.add((long) made.left(h));
        seen.add((long) made.trulyAll(h));
    }

    private void shelves() {
        for (int d = 0; d < 8; d++) {
            seen.add((long) made.weight(d));
            seen.add((long) made.toss(d));
            seen.add((long) made.copy(d, 0, d, 0, 0));
            seen.add((long) made.fault(d));
            for (int i = 0; i < 6; i++) {
                boolean throwsSome = Edges.thrownBy(made, d, i) != 0;
                seen.add(throwsSome ? -1L : made.element(d, i));
            }
        }
    }

    private static void refused(int promise, String call, long due, Call refused) {
        refused(promise, call, due, refused, furnished(), furnished());
    }

    private static void refusedWhenFull(int promise, String call, long due, Call refused) {
        refused(promise, call, due, refused, full(), full());
    }

    private static void refusedOfNothing(int promise, String call, long due, Call refused) {
        refused(promise, call, due, refused, withNothing(), withNothing());
    }

    private static void refused(int promise, String call, long due, Call refused, HallSheets x, HallSheets untouched) {
        EDGES.sentence(promise, "A refused call changes nothing");
        EDGES.due(call, refused.on(x), due);
        EDGES.due(call + ", once more", refused.on(x), due);
        List<Long> got = new RefusalEdgesTest(x).all();
        List<Long> want = new RefusalEdgesTest(untouched).all();
        EDGES.due(call + ": answers seen", got.size(), want.size());
        for (int i = 0; i < got.size() && i < want.size(); i++) {
            EDGES.due(call + ": answer " + i + " behind it", got.get(i), want.get(i));
        }
    }

    private static void hallCalls() {
        for (int list : new int[] {0, -1, 1000, LEAST, MOST}) {
            refused(2, "hall(" + list + ", 0, 0)", -1, x -> x.hall(list, 0, 0));
        }
        for (int told : new int[] {-1, 1, 40, 600, 1531, 2000, LEAST, MOST}) {
            refused(2, "hall(5, " + told + ", 0)", -1, x -> x.hall(5, told, 0));
        }
        for (int earlier : new int[] {-1, 101, LEAST, MOST}) {
            refused(2, "hall(5, 0, " + earlier + ")", -1, x -> x.hall(5, 0, earlier));
        }
        for (int h : NO_HALLS) {
            refused(3, "truly(" + h + ", 0, 0)", -1, x -> x.truly(h, 0, 0));
            refused(4, "sheet(" + h + ", 1, 1)", -1, x -> x.sheet(h, 1, 1));
            refused(6, "of(" + h + ", 0)", -1, x -> x.of(h, 0));
        }
        refused(3, "truly(2, 151, 0)", -1, x -> x.truly(2, 151, 0));
        refused(3, "truly(2, -1, 0)", -1, x -> x.truly(2, -1, 0));
        refused(3, "truly(2, 10, 11)", -1, x -> x.truly(2, 10, 11));
        refused(3, "truly(2, 10, -1)", -1, x -> x.truly(2, 10, -1));
        refused(4, "sheet(2, 8, 0)", -1, x -> x.sheet(2, 8, 0));
        refused(4, "sheet(2, -1, 0)", -1, x -> x.sheet(2, -1, 0));
        refused(4, "sheet(2, 1, 1000)", -1, x -> x.sheet(2, 1, 1000));
        refused(4, "sheet(2, 1, -1)", -1, x -> x.sheet(2, 1, -1));
        int[] most = {9, 100, 100, 30, 100, 100, 100, 100, 100, 100};
        for (int what = 0; what <= 9; what++) {
            int law = what;
            refused(5, "set(" + law + ", " + (most[law] + 1) + ")", -1, x -> x.set(law, most[law] + 1));
            refused(5, "set(" + law + ", -1)", -1, x -> x.set(law, -1));
        }
        for (int what : new int[] {-1, 10, LEAST, MOST}) {
            refused(5, "set(" + what + ", 0)", -1, x -> x.set(what, 0));
            refused(6, "of(0, " + what + ")", -1, x -> x.of(0, what));
        }
        refused(6, "of(3, 5), MISSING", -4, x -> x.of(3, 5));
        for (int h : new int[] {-2, 4, 30, LEAST, MOST}) {
            refused(7, "send(" + h + ")", -1, x -> x.send(h));
        }
        refusedOfNothing(7, "send(0) of no HALLS", -1, x -> x.send(0));
    }

    private static void figureCalls() {
        for (int d : NO_SHELVES) {
            refused(8, "hear(" + d + ", INTS)", -1, x -> x.hear(d, INTS));
            refused(8, "hear(INTS, " + d + ")", -1, x -> x.hear(INTS, d));
        }
        refused(8, "hear(NOTHING, INTS)", -11, x -> x.hear(NOTHING, INTS));
        refused(8, "hear(INTS, NOTHING)", -11, x -> x.hear(INTS, NOTHING));
        refused(8, "hear(SHEET, NOTHING)", -11, x -> x.hear(SHEET, NOTHING));
        refused(8, "hear(SHEET, INTS)", -12, x -> x.hear(SHEET, INTS));
        refused(8, "hear(INTS, SHEET)", -12, x -> x.hear(INTS, SHEET));
        refused(8, "hear(INTS, SHORTS)", -12, x -> x.hear(INTS, SHORTS));
        refused(8, "hear(EMPTY, SHORTS)", -12, x -> x.hear(EMPTY, SHORTS));
        refused(8, "hear(GOOD_TEXT, INTS)", -12, x -> x.hear(GOOD_TEXT, INTS));
        for (int bad : new int[] {-1, 10, LEAST, MOST}) {
            refused(9, "figures(" + bad + ", 0)", -1, x -> x.figures(bad, 0));
            refused(9, "figures(0, " + bad + ")", -1, x -> x.figures(0, bad));
            refused(10, "odds(" + bad + ")", -1, x -> x.odds(bad));
        }
        for (int bad : new int[] {-2, 7, 101, LEAST, MOST}) {
            refused(11, "round(" + bad + ")", -1, x -> x.round(bad));
        }
        for (int bad : new int[] {0, -1, 1000, LEAST, MOST}) {
            refused(12, "may(" + bad + ", 0)", -1, x -> x.may(bad, 0));
        }
        for (int bad : new int[] {-1, 101, LEAST, MOST}) {
            refused(12, "may(" + bad + ", 1)", -1, x -> x.may(bad, 1));
            refused(12, "may(5, " + bad + ")", -1, x -> x.may(5, bad));
        }
    }

    private static void cloudCalls() {
        for (int bad : new int[] {-1, 2, LEAST, MOST}) {
            refused(13, "middle(" + bad + ")", -1, x -> x.middle(bad));
            refused(18, "ways(" + bad + ")", -1, x -> x.ways(bad));
        }
        refusedOfNothing(13, "middle(0) of no HALLS", -4, x -> x.middle(0));
        for (int h : NO_HALLS) {
            refused(14, "left(" + h + ")", FAR - 1, x -> x.left(h));
            refused(15, "trulyAll(" + h + ")", -1, x -> x.trulyAll(h));
            refused(16, "watch(" + h + ", true)", -1, x -> x.watch(h, true));
            refused(16, "watch(" + h + ", false)", -1, x -> x.watch(h, false));
        }
        refused(14, "left(3), MISSING", FAR - 4, x -> x.left(3));
        refused(15, "trulyAll(3), MISSING", -4, x -> x.trulyAll(3));
        refused(15, "trulyAll(0)", -4, x -> x.trulyAll(0));
        refusedOfNothing(16, "watch(0, true) of no HALLS", -1, x -> x.watch(0, true));
        refusedOfNothing(17, "cost() of no HALLS", FAR - 4, HallSheets::cost);
        refusedOfNothing(18, "ways(0) of no HALLS", -4, x -> x.ways(0));
        refusedWhenFull(18, "ways(0) of 15 HALLS", -3, x -> x.ways(0));
        refusedWhenFull(18, "ways(1) of 15 HALLS", -3, x -> x.ways(1));
        refusedWhenFull(18, "-1 ahead of -3", -1, x -> x.ways(2));
    }

    private static void sumCalls() {
        for (int bad : new int[] {-1, 4, LEAST, MOST}) {
            refused(19, "up(" + bad + ", 0, 0)", -1, x -> x.up(bad, 0, 0));
            refused(20, "down(" + bad + ")", -1, x -> x.down(bad));
            refused(21, "sum(" + bad + ", 0)", FAR - 1, x -> x.sum(bad, 0));
        }
        for (int bad : new int[] {-1, 100000, LEAST, MOST}) {
            refused(19, "up(1, " + bad + ", 0)", -1, x -> x.up(1, bad, 0));
            refused(19, "up(1, 0, " + bad + ")", -1, x -> x.up(1, 0, bad));
            refused(19, "up(2, " + bad + ", 0)", -1, x -> x.up(2, bad, 0));
            refused(19, "up(2, 0, " + bad + ")", -1, x -> x.up(2, 0, bad));
            refused(21, "sum(1, " + bad + ")", FAR - 1, x -> x.sum(1, bad));
        }
        for (int h : new int[] {-2, 4, LEAST, MOST}) {
            refused(24, "untrue(" + h + ", 0)", -1, x -> x.untrue(h, 0));
        }
        for (int bad : new int[] {-1, 2, LEAST, MOST}) {
            refused(24, "untrue(0, " + bad + ")", -1, x -> x.untrue(0, bad));
            refused(24, "untrue(3, " + bad + "), MISSING", -1, x -> x.untrue(3, bad));
            refused(26, "again(5, " + bad + ")", -1, x -> x.again(5, bad));
        }
        refused(24, "untrue(3, 0), MISSING", -4, x -> x.untrue(3, 0));
        refused(24, "untrue(3, 1), MISSING", -4, x -> x.untrue(3, 1));
        for (int bad : new int[] {-1, 301, LEAST, MOST}) {
            refused(26, "again(" + bad + ", 1)", -1, x -> x.again(bad, 1));
        }
        EDGES.sentence(25, "A refused call changes nothing");
        HallSheets x = Edges.hall(9, 9, 9);
        x.send(0);
        EDGES.due("turn() that can't", x.turn(), -4);
        EDGES.due("WRITTEN stays", x.of(0, 6), 9);
    }

    private static void landCalls() {
        for (int bad : new int[] {-1, 5, LEAST, MOST}) {
            refused(27, "measure(" + bad + ")", -1, x -> x.measure(bad));
            refused(28, "odd(" + bad + ", 5, 1)", -1, x -> x.odd(bad, 5, 1));
        }
        for (int bad : new int[] {0, -1, 51, LEAST, MOST}) {
            refused(28, "odd(0, " + bad + ", 1)", -1, x -> x.odd(0, bad, 1));
        }
    }

    private static void markCalls() {
        for (int d : NO_SHELVES) {
            refused(30, "fault(" + d + ")", -1, x -> x.fault(d));
            refused(31, "mark(" + d + ")", -1, x -> x.mark(d));
            refusedWhenFull(31, "mark(" + d + "), -1 ahead of -2", -1, x -> x.mark(d));
        }
        int[][] shelves = {{NOTHING, -11}, {SHEET, -12}, {SHORTS, -12}, {INTS, -12}, {EMPTY, -12}};
        for (int[] shelf : shelves) {
            refused(30, "fault of SHELF " + shelf[0], shelf[1], x -> x.fault(shelf[0]));
            refused(31, "mark of SHELF " + shelf[0], shelf[1], x -> x.mark(shelf[0]));
            refusedWhenFull(31, "mark of SHELF " + shelf[0] + ", -2 ahead of others", -2, x -> x.mark(shelf[0]));
        }
        refused(31, "mark(BAD_TEXT)", -104, x -> x.mark(BAD_TEXT));
        refusedWhenFull(31, "mark(BAD_TEXT), -2 ahead", -2, x -> x.mark(BAD_TEXT));
        refusedWhenFull(31, "mark(GOOD_TEXT)", -2, x -> x.mark(GOOD_TEXT));
        for (int h : NO_HALLS) {
            refused(32, "marked(" + h + ")", -1, x -> x.marked(h));
        }
        refused(32, "marked(3), MISSING", -4, x -> x.marked(3));
        for (int bad : new int[] {'A' - 1, 'Z' + 1, -1, LEAST, MOST}) {
            refused(33, "said(" + bad + ", 0)", -1, x -> x.said(bad, 0));
        }
        for (int bad : new int[] {-1, 2, LEAST, MOST}) {
            refused(33, "said('A', " + bad + ")", -1, x -> x.said('A', bad));
        }
        EDGES.sentence(35, "A refused call changes nothing");
        HallSheets x = Edges.hall(9, 9, 8);
        EDGES.due("restore() without an image", x.restore(), -3);
        EDGES.due("HALLS stay", x.of(0, 2), 8);
        for (int bad : new int[] {-1, 7, LEAST, MOST}) {
            refused(36, "count(" + bad + ")", -1, y -> y.count(bad));
        }
    }

    private static void shelfCalls() {
        for (int d : NO_SHELVES) {
            refused(37, "keep(" + d + ", 0, 0)", -1, x -> x.keep(d, 0, 0));
            refused(37, "keep(" + d + ", 1, 0)", -1, x -> x.keep(d, 1, 0));
            refused(38, "row(" + d + ", 0, 3)", -1, x -> x.row(d, 0, 3));
            refused(38, "row(" + d + ", 0, -1)", -1, x -> x.row(d, 0, -1));
            refused(39, "put(" + d + ", 0, 9)", -1, x -> x.put(d, 0, 9));
            refused(40, "element(" + d + ", 0)", 1, x -> Edges.thrownBy(x, d, 0));
            refused(42, "weight(" + d + ")", -1, x -> x.weight(d));
            refused(43, "toss(" + d + ")", -1, x -> x.toss(d));
        }
        for (int d = 0; d < 8; d++) {
            int shelf = d;
            refused(37, "keep(" + shelf + ", 2, 0)", -1, x -> x.keep(shelf, 2, 0));
            refused(37, "keep(" + shelf + ", -1, 0)", -1, x -> x.keep(shelf, -1, 0));
            refused(37, "keep(" + shelf + ", 1, 4)", -1, x -> x.keep(shelf, 1, 4));
            refused(37, "keep(" + shelf + ", 1, -1)", -1, x -> x.keep(shelf, 1, -1));
            refused(38, "row(" + shelf + ", 0, 81)", -1, x -> x.row(shelf, 0, 81));
            refused(38, "row(" + shelf + ", 3, 1)", -1, x -> x.row(shelf, 3, 1));
            refused(38, "row(" + shelf + ", -1, 1)", -1, x -> x.row(shelf, -1, 1));
            refused(38, "row(" + shelf + ", 3, -1)", -1, x -> x.row(shelf, 3, -1));
            refused(38, "row(" + shelf + ", 2, -1)", -14, x -> x.row(shelf, 2, -1));
            refused(38, "row(" + shelf + ", 0, least)", -14, x -> x.row(shelf, 0, LEAST));
        }
        for (int i : new int[] {-1, 4, 80, LEAST, MOST}) {
            refused(39, "put(INTS, " + i + ", 9)", -13, x -> x.put(INTS, i, 9));
            refused(39, "put(EMPTY, " + i + ", 9)", -13, x -> x.put(EMPTY, i, 9));
            refused(39, "put(NOTHING, " + i + ", 9)", -11, x -> x.put(NOTHING, i, 9));
            refused(39, "put(SHEET, " + i + ", 9)", -12, x -> x.put(SHEET, i, 9));
            refused(40, "element(INTS, " + i + ")", 2, x -> Edges.thrownBy(x, INTS, i));
        }
        refused(40, "element(NOTHING, 0)", 2, x -> Edges.thrownBy(x, NOTHING, 0));
        refused(40, "element(SHEET, 0)", 2, x -> Edges.thrownBy(x, SHEET, 0));
        refused(42, "weight(NOTHING)", -11, x -> x.weight(NOTHING));
        refused(42, "weight(EMPTY)", -12, x -> x.weight(EMPTY));
        refused(43, "toss(NOTHING)", -11, x -> x.toss(NOTHING));
        refused(43, "toss(EMPTY)", -12, x -> x.toss(EMPTY));
        refused(43, "toss(INTS)", -12, x -> x.toss(INTS));
    }

    private static void copyCalls() {
        for (int d : NO_SHELVES) {
            refused(41, "copy(" + d + ", 0, INTS, 0, 1)", -1, x -> x.copy(d, 0, INTS, 0, 1));
            refused(41, "copy(INTS, 0, " + d + ", 0, 1)", -1, x -> x.copy(INTS, 0, d, 0, 1));
            refused(41, "copy(NOTHING, 0, " + d + ", 0, 1)", -1, x -> x.copy(NOTHING, 0, d, 0, 1));
        }
        refused(41, "copy(NOTHING, 0, INTS, 0, 1)", -11, x -> x.copy(NOTHING, 0, INTS, 0, 1));
        refused(41, "copy(INTS, 0, NOTHING, 0, 1)", -11, x -> x.copy(INTS, 0, NOTHING, 0, 1));
        refused(41, "copy(SHEET, 0, NOTHING, 0, 1)", -11, x -> x.copy(SHEET, 0, NOTHING, 0, 1));
        refused(41, "copy(SHEET, 0, INTS, 0, 1)", -12, x -> x.copy(SHEET, 0, INTS, 0, 1));
        refused(41, "copy(INTS, 0, SHEET, 0, 1)", -12, x -> x.copy(INTS, 0, SHEET, 0, 1));
        refused(41, "copy(INTS, 0, SHORTS, 0, 1)", -12, x -> x.copy(INTS, 0, SHORTS, 0, 1));
        refused(41, "copy(INTS, 9, SHORTS, 9, 1)", -12, x -> x.copy(INTS, 9, SHORTS, 9, 1));
        refused(41, "copy(INTS, 0, GOOD_TEXT, 0, 1)", -12, x -> x.copy(INTS, 0, GOOD_TEXT, 0, 1));
        int[][] places = {{-1, 0, 1}, {0, -1, 1}, {0, 0, -1}, {4, 0, 1}, {0, 2, 1}, {0, 0, 3}, {3, 0, 2}, {0, 1, 2}, {5, 0, 0},
            {0, 3, 0}, {MOST, 0, 1}, {0, MOST, 1}, {0, 0, MOST}, {1, 1, MOST}, {LEAST, 0, 1}, {0, LEAST, 1}, {0, 0, LEAST}};
        for (int[] p : places) {
            refused(41, "copy(INTS, " + p[0] + ", OTHER_INTS, " + p[1] + ", " + p[2] + ")", -13,
                x -> x.copy(INTS, p[0], OTHER_INTS, p[1], p[2]));
        }
        refused(41, "copy(INTS, 0, INTS, 1, 4)", -13, x -> x.copy(INTS, 0, INTS, 1, 4));
        refused(41, "copy(INTS, 0, EMPTY, 0, 1)", -13, x -> x.copy(INTS, 0, EMPTY, 0, 1));
        refused(41, "copy(EMPTY, 0, INTS, 0, 1)", -13, x -> x.copy(EMPTY, 0, INTS, 0, 1));
    }

    private static void fullCalls() {
        refusedWhenFull(2, "a 31st HALL", -2, x -> x.hall(5, 0, 0));
        refusedWhenFull(2, "a 31st HALL, -1 ahead of -2", -1, x -> x.hall(0, 0, 0));
        for (int h : new int[] {-1, 30, LEAST, MOST}) {
            refusedWhenFull(3, "truly(" + h + ", 0, 0) of 30 HALLS", -1, x -> x.truly(h, 0, 0));
            refusedWhenFull(4, "sheet(" + h + ", 0, 0) of 30 HALLS", -1, x -> x.sheet(h, 0, 0));
            refusedWhenFull(16, "watch(" + h + ", true) of 30 HALLS", -1, x -> x.watch(h, true));
            refusedWhenFull(37, "keep(0, 1, " + h + ") of 30 HALLS", -1, x -> x.keep(0, 1, h));
        }
        refusedWhenFull(7, "send(30) of 30 HALLS", -1, x -> x.send(30));
    }
}

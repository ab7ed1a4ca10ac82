/** The boundaries that promises 34 to 36 name: the image, what is told. */
public final class ImageEdgesTest {
    private static final int LEAST = Edges.LEAST;
    private static final int MOST = Edges.MOST;
    private static final Edges EDGES = new Edges("ImageEdgesTest");

    private ImageEdgesTest() {
    }

    public static void main(String[] args) {
        images();
        noImage();
        emptyImage();
        fullImage();
        restored();
        whatHallsAre();
        lawsRestored();
        shelvesStay();
        newBehindImage();
        goneWithImage();
        whichCounts();
        counts();
        EDGES.end(34, 36);
    }

    private static void due(String call, long got, long want) {
        EDGES.due(call, got, want);
    }

    private static void images() {
        EDGES.sentence(34, "THE IMAGE is taken: how many HALLS");
        due("no HALLS", new HallSheets().image(), 0);
        due("30 HALLS", Edges.halls(30).image(), 30);
        HallSheets x = Edges.halls(1);
        due("one HALL", x.image(), 1);
        x.hall(5, 0, 0);
        due("THE IMAGE anew", x.image(), 2);
        x.hall(5, 0, 0);
        due("the later one holds", x.restore(), 2);
    }

    private static void noImage() {
        EDGES.sentence(35, "-3: there is none");
        due("a new object", new HallSheets().restore(), -3);
        HallSheets x = Edges.hall(5, 4, 3);
        due("none yet", x.restore(), -3);
        due("nothing is changed by it", x.of(0, 1), 4);
        x.image();
        due("then", x.restore(), 1);
        due("once more", x.restore(), 1);
    }

    private static void emptyImage() {
        EDGES.sentence(35, "RESTORED all is as it was then: none");
        HallSheets x = new HallSheets();
        due("image()", x.image(), 0);
        for (int h = 0; h < 30; h++) {
            x.hall(9, 0, 0);
        }
        Checks.text(x, 0, "A:c=0");
        for (int m = 0; m < 10; m++) {
            x.mark(0);
        }
        x.up(3, 5, 5);
        due("full of HALLS", x.hall(9, 0, 0), -2);
        due("full of MARKS", x.mark(0), -2);
        due("restore()", x.restore(), 0);
        due("no HALLS", x.of(0, 0), -1);
        due("no MARKS", x.count(2), 0);
        due("no SENT UP", x.down(3), 0);
        due("room for HALLS", x.hall(7, 0, 0), 0);
        due("room for MARKS", x.mark(0), 0);
        due("THE IMAGE stays", x.restore(), 0);
        due("count(0)", x.count(0), 0);
    }

    private static void fullImage() {
        EDGES.sentence(35, "RESTORED all is as it was then: the most HALLS and MARKS");
        HallSheets x = new HallSheets();
        for (int h = 0; h < 30; h++) {
            x.hall(100 + h, 1530, h);
            x.truly(h, h, h);
        }
        x.send(-1);
        for (int m = 0; m < 10; m++) {
            Checks.text(x, 0, (char) ('A' + m) + ":h=" + (20 + m)).mark(0);
        }
        due("image()", x.image(), 30);
        x.land(5);
        x.row(1, 0, 0);
        x.hear(1, 1);
        due("all MISSING", x.count(1), 30);
        due("restore()", x.restore(), 30);
        due("none MISSING", x.count(1), 0);
        for (int h = 0; h < 30; h++) {
            due("of(" + h + ", 0)", x.of(h, 0), 100 + h);
            due("of(" + h + ", 2)", x.of(h, 2), h);
            due("of(" + h + ", 5)", x.of(h, 5), h);
            due("marked(" + h + ")", x.marked(h), h < 20 ? -4 : 'A' + h - 20);
        }
        due("full of HALLS", x.hall(5, 0, 0), -2);
        due("full of MARKS", x.mark(0), -2);
    }

    private static void restored() {
        EDGES.sentence(35, "THE IMAGE: all that there is; RESTORED all is as it was then");
        HallSheets x = Edges.hall(90, 60, 30);
        x.hall(80, 1310, 95);
        x.sheet(0, 5, 7);
        x.sheet(1, 4, 9);
        x.watch(1, true);
        x.send(0);
        x.up(0, 5, 4);
        Checks.text(x, 0, "A:c=60").mark(0);
        x.image();
        for (int times = 0; times < 2; times++) {
            x.truly(0, 1, 1);
            x.truly(1, 2, 2);
            x.sheet(0, 0, 0);
            x.sheet(1, 6, 0);
            x.send(-1);
            x.watch(0, true);
            x.watch(1, false);
            x.up(0, 9, 9);
            x.up(3, 0, 0);
            Checks.text(x, 0, "B:c<99").mark(0);
            x.hall(70, 0, 0);
            due("restore()", x.restore(), 2);
            long[] first = {90, 60, 30, 60, 37, 60, 37, 61, 5};
            long[] second = {80, 0, 0, 9, 9, -4, -4, -4, 4};
            for (int what = 0; what <= 8; what++) {
                due("of(0, " + what + ")", x.of(0, what), first[what]);
                due("of(1, " + what + ")", x.of(1, what), second[what]);
            }
            due("WATCHED is HALL 1", x.watch(1, true) + x.watch(0, false), 0);
            due("sum(0, 2)", x.sum(0, 2), 5);
            due("sum(0, 3)", x.sum(0, 3), 4);
            due("DISTRICT 3", x.down(3), 0);
            due("count(2)", x.count(2), 1);
            due("marked(0)", x.marked(0), 'A');
            due("no third HALL", x.of(2, 0), -1);
        }
        due("told no more", x.down(0), 1);
        x.restore();
        due("told again", x.down(0), 1);
    }

    private static void whatHallsAre() {
        EDGES.sentence(35, "all that there is: LIST, TOWN, KIN, DISTRICT, EARLIER of HALLS, the texts of MARKS");
        HallSheets x = new HallSheets();
        String[] texts = {"A:h<1", "B:l=70&t=1&k=5&d=3&e>99", "C:l=999&t=0&k=1&d=2&e=7"};
        x.hall(80, 0, 0);
        x.hall(70, 1530, 100);
        x.hall(999, 120, 7);
        for (String text : texts) {
            Checks.text(x, 0, text).mark(0);
        }
        x.image();
        x.hall(1, 0, 1);
        Checks.text(x, 0, "D:h=3").mark(0);
        for (int times = 0; times < 2; times++) {
            x.restore();
            x.send(-1);
            for (int h = 0; h < 3; h++) {
                due("marked(" + h + "), restored", x.marked(h), 'A' + h);
                due("of(" + h + ", 0), restored", x.of(h, 0), h == 0 ? 80 : h == 1 ? 70 : 999);
            }
            x.up(3, 5, 0);
            due("sum(2, 4), WRITTEN of DISTRICT 2 only", x.sum(2, 4), 0);
            x.restore();
            Checks.text(x, 0, "E:!(l=1)").mark(0);
        }
    }

    private static void lawsRestored() {
        EDGES.sentence(35, "all that there is: LAWS, LIKED");
        HallSheets x = new HallSheets();
        for (int what = 0; what <= 9; what++) {
            x.set(what, what);
        }
        x.image();
        for (int what = 0; what <= 9; what++) {
            x.set(what, 9 - what);
        }
        x.restore();
        for (int what = 0; what <= 9; what++) {
            due("set(" + what + ", 0)", x.set(what, 0), what);
        }
    }

    private static void shelvesStay() {
        EDGES.sentence(35, "but SHELVES (and THE IMAGE)");
        HallSheets x = Edges.hall(50, 40, 30);
        x.row(0, 1, 2);
        x.row(1, 1, 2);
        x.keep(2, 1, 0);
        x.image();
        x.sheet(0, 4, 5);
        x.put(0, 1, 9);
        x.keep(1, 1, 0);
        x.keep(2, 0, 0);
        x.row(3, 2, 80);
        due("restore()", x.restore(), 1);
        due("KIND as in THE IMAGE", x.of(0, 8), 0);
        due("a number put in since", x.element(0, 1), 9);
        due("a SHEET kept since", x.weight(1), 16);
        due("nothing since", x.weight(2), -11);
        due("a ROW since", x.put(3, 79, 0), 0);
        due("THE IMAGE holds none of itself", x.restore(), 1);
    }

    private static void newBehindImage() {
        EDGES.sentence(35, "a HALL that comes behind THE IMAGE's is new");
        HallSheets x = Edges.hall(50, 40, 30);
        x.image();
        x.hall(60, 1530, 100);
        x.truly(1, 55, 44);
        x.sheet(1, 4, 3);
        x.watch(1, true);
        x.send(1);
        x.restore();
        due("hall(70, 0, 0)", x.hall(70, 0, 0), 1);
        long[] due = {70, 0, 0, 0, 0, -4, -4, -4, 0};
        for (int what = 0; what <= 8; what++) {
            due("of(1, " + what + ")", x.of(1, what), due[what]);
        }
        due("not WATCHED", x.watch(1, false), 0);
        x.send(1);
        Checks.text(x, 0, "A:l=70&t=0&k=0&d=0&e=0").mark(0);
        due("its own TOWN, KIN, DISTRICT, EARLIER", x.marked(1), 'A');
    }

    private static void goneWithImage() {
        EDGES.sentence(35, "HALLS that came behind THE IMAGE are no more");
        HallSheets x = Edges.hall(400, 400, 400);
        x.send(0);
        x.watch(0, true);
        x.image();
        for (int h = 1; h < 14; h++) {
            x.hall(300, 0, 100);
            x.truly(h, 300, 290 + h % 10);
            x.sheet(h, 4, 99);
            x.send(h);
            x.watch(h, h % 2 == 0);
        }
        Checks.text(x, 0, "A:c>0").mark(0);
        due("cost() of 14", x.cost() == Edges.FAR - 4 ? 1 : 0, 0);
        due("restore()", x.restore(), 1);
        long[] counts = {1, 0, 0, 400, 1, 400, 400};
        for (int what = 0; what <= 6; what++) {
            due("count(" + what + ")", x.count(what), counts[what]);
        }
        long[] measures = {90, 72, 1, 1, 0};
        for (int what = 0; what <= 4; what++) {
            due("measure(" + what + ")", x.measure(what), measures[what]);
        }
        due("cost()", x.cost(), Edges.FAR - 4);
        due("ways(1)", x.ways(1), -4);
        due("middle(0)", x.middle(0), 100);
        due("figures(0, 0)", x.figures(0, 0), 1);
        due("figures(9, 0)", x.figures(9, 0), 0);
        due("odds(0)", x.odds(0), 1);
        due("odds(1)", x.odds(1), 10);
        due("round(-1)", x.round(-1), 1);
        due("trulyAll(0)", x.trulyAll(0), 0);
        due("sum(0, 0)", x.sum(0, 0), 400);
        due("untrue(-1, 0)", x.untrue(-1, 0), 0);
        due("untrue(-1, 1)", x.untrue(-1, 1), 0);
        due("turn()", x.turn(), -4);
        due("again(300, 0)", x.again(300, 0), 0);
        due("said('A', 0)", x.said('A', 0), 0);
        x.set(1, 100);
        x.set(3, 0);
        due("land(1)", x.land(1), 400);
        due("send(-1)", x.send(-1), 1);
    }

    private static void whichCounts() {
        EDGES.sentence(36, "-1 for others");
        HallSheets x = Edges.halls(1);
        for (int what : new int[] {-1, 7, LEAST, MOST}) {
            due("count(" + what + ")", x.count(what), -1);
            due("count(" + what + ") of no HALLS", new HallSheets().count(what), -1);
        }
        for (int what = 0; what <= 6; what++) {
            due("count(" + what + ") of no HALLS", new HallSheets().count(what), 0);
        }
    }

    private static void counts() {
        EDGES.sentence(36, "5 all CAME, 6 all OURS that are WRITTEN: not as SENT UP, not of MISSING HALLS");
        HallSheets sent = Edges.written(new int[] {10, 20, 30}, new int[] {4, 5, 6});
        sent.up(0, 99999, 99998);
        sent.up(1, 7, 7);
        due("count(5)", sent.count(5), 60);
        due("count(6)", sent.count(6), 15);
        Edges.write(sent, new int[] {-1, 20, -1}, new int[] {4, 5, 6});
        due("count(5), two MISSING", sent.count(5), 20);
        due("count(6), two MISSING", sent.count(6), 5);
        due("count(3), two MISSING", sent.count(3), 3 * 999);
        EDGES.sentence(36, "0 HALLS, 1 those MISSING, 2 MARKS, 3 all LISTS, 4 those WATCHED, 5 all CAME, 6 all OURS");
        HallSheets x = Edges.halls(30);
        x.truly(29, 99, 9);
        long[] missing = {30, 30, 0, 30 * 999, 0, 0, 0};
        for (int what = 0; what <= 6; what++) {
            due("count(" + what + "), all MISSING", x.count(what), missing[what]);
        }
        Edges.write(x, Edges.repeated(30, 9999), Edges.repeated(30, 9998));
        for (int h = 0; h < 30; h++) {
            x.watch(h, true);
        }
        Checks.text(x, 0, "A:c=0");
        for (int m = 0; m < 10; m++) {
            x.mark(0);
        }
        long[] most = {30, 0, 10, 30 * 999, 30, 30 * 9999, 30 * 9998};
        for (int what = 0; what <= 6; what++) {
            due("count(" + what + "), the most", x.count(what), most[what]);
        }
        Edges.write(x, Edges.repeated(29, 10), Edges.repeated(29, 1));
        long[] one = {30, 1, 10, 30 * 999, 30, 290, 29};
        for (int what = 0; what <= 6; what++) {
            due("count(" + what + "), HALL 29 MISSING", x.count(what), one[what]);
        }
    }
}

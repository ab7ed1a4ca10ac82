/** For each promise of the document: ordinary inputs, edges that it names, wrong inputs. */
public final class PromiseTest {
    private static final int FAR = -1000000000;
    private static final int LEAST = Integer.MIN_VALUE;
    private static final int MOST = Integer.MAX_VALUE;
    private static final Checks CHECKS = new Checks("PromiseTest");

    private PromiseTest() {
    }

    public static void main(String[] args) {
        halls();
        writing();
        figures();
        clouds();
        watching();
        sums();
        untruths();
        lands();
        marks();
        images();
        rows();
        sheetsOnShelves();
        CHECKS.end();
    }

    private static void due(String call, long got, long want) {
        CHECKS.due(call, got, want);
    }

    /** A HALL whose CAME and OURS TRULY are these, and sent. */
    private static int sentHall(HallSheets x, int list, int told, int earlier, int came, int ours) {
        int h = x.hall(list, told, earlier);
        x.truly(h, came, ours);
        x.send(h);
        return h;
    }

    private static void halls() {
        newObject();
        hallNumbers();
        trulyNumbers();
        sheetKinds();
        laws();
    }

    private static void newObject() {
        CHECKS.part("promise 1");
        HallSheets x = new HallSheets();
        for (int what = 0; what <= 6; what++) {
            due("count(" + what + ")", x.count(what), 0);
        }
        due("send(-1)", x.send(-1), 0);
        due("won()", x.won(), 0);
        due("helped()", x.helped(), 0);
        due("turn()", x.turn(), 0);
        due("untrue(-1, 0)", x.untrue(-1, 0), 0);
        due("untrue(-1, 1)", x.untrue(-1, 1), 0);
        due("odds(3)", x.odds(3), 1);
        due("again(300, 0)", x.again(300, 0), 0);
        due("again(300, 1)", x.again(300, 1), 0);
        due("middle(0)", x.middle(0), -4);
        due("cost()", x.cost(), FAR - 4);
        due("ways(0)", x.ways(0), -4);
        due("restore()", x.restore(), -3);
        due("land(9)", x.land(9), 0);
        due("image()", x.image(), 0);
        for (int what = 0; what <= 4; what++) {
            due("measure(" + what + ")", x.measure(what), 0);
            due("odd(" + what + ", 50, 1)", x.odd(what, 50, 1), 50);
        }
        for (int d = 0; d <= 7; d++) {
            due("weight(" + d + ")", x.weight(d), -11);
        }
    }

    private static void hallNumbers() {
        CHECKS.part("promise 2");
        HallSheets x = new HallSheets();
        due("list 0", x.hall(0, 0, 0), -1);
        due("list 1000", x.hall(1000, 0, 0), -1);
        due("list below", x.hall(LEAST, 0, 0), -1);
        due("earlier -1", x.hall(5, 0, -1), -1);
        due("earlier 101", x.hall(5, 0, 101), -1);
        for (int told : new int[] {-1, -10, -1000, 1, 9, 40, 90, 600, 900, 1600, 1040, 1531, 2000, 10000, LEAST, MOST}) {
            due("told " + told, x.hall(5, told, 0), -1);
        }
        due("none came of these", x.count(0), 0);
        due("least", x.hall(1, 0, 0), 0);
        due("greatest", x.hall(999, 1530, 100), 1);
        due("of(0, 0)", x.of(0, 0), 1);
        due("of(1, 0)", x.of(1, 0), 999);
        for (int h = 2; h < 30; h++) {
            due("the next", x.hall(10 + h, 1000 * (h % 2) + 100 * (h % 6) + 10 * (h % 4), h), h);
        }
        due("no room", x.hall(5, 0, 0), -2);
        due("-1 ahead of -2", x.hall(0, 0, 0), -1);
        due("count(0)", x.count(0), 30);
        due("count(1)", x.count(1), 30);
        Checks.text(x, 0, "A:t=h%2&k=h%6&d=h%4&e=h");
        x.mark(0);
        x.send(-1);
        due("what was told", x.said('A', 0), 29);
        due("hall 1 otherwise", x.marked(1), -4);
    }

    private static void trulyNumbers() {
        CHECKS.part("promise 3");
        HallSheets x = new HallSheets();
        x.hall(50, 0, 0);
        due("of(0, 1) at first", x.of(0, 1), 0);
        due("of(0, 2) at first", x.of(0, 2), 0);
        due("all", x.truly(0, 50, 50), 0);
        due("came that it was", x.truly(0, 40, 7), 50);
        due("above the list", x.truly(0, 51, 0), -1);
        due("ours above came", x.truly(0, 30, 31), -1);
        due("came below 0", x.truly(0, -1, -1), -1);
        due("ours below 0", x.truly(0, 5, -1), -1);
        due("no hall", x.truly(1, 0, 0), -1);
        due("no hall", x.truly(-1, 0, 0), -1);
        due("no hall", x.truly(30, 0, 0), -1);
        due("no hall", x.truly(MOST, 0, 0), -1);
        due("of(0, 1)", x.of(0, 1), 40);
        due("of(0, 2)", x.of(0, 2), 7);
        due("nobody", x.truly(0, 0, 0), 40);
    }

    private static void sheetKinds() {
        CHECKS.part("promise 4, 6");
        HallSheets x = new HallSheets();
        x.hall(128, 0, 0);
        x.truly(0, 126, 75);
        due("kind at first", x.of(0, 8), 0);
        tells(x, 0, 999, 0, 126, 75);
        tells(x, 1, 999, 0, 126, 75);
        tells(x, 2, 999, 1, 128, 80);
        tells(x, 3, 50, 2, 126, 60);
        tells(x, 3, 999, 3, 126, 120);
        tells(x, 3, 0, 3, 126, 0);
        tells(x, 4, 999, 3, 1125, 1074);
        tells(x, 4, 0, 4, 126, 75);
        tells(x, 5, 51, 4, 126, 126);
        tells(x, 5, 50, 5, 126, 125);
        tells(x, 6, 999, 5, 128, 128);
        tells(x, 7, 999, 6, 126, 57);
        due("kind 8", x.sheet(0, 8, 0), -1);
        due("kind -1", x.sheet(0, -1, 0), -1);
        due("number -1", x.sheet(0, 0, -1), -1);
        due("number 1000", x.sheet(0, 0, 1000), -1);
        due("no hall", x.sheet(1, 0, 0), -1);
        due("no hall", x.sheet(-1, 0, 0), -1);
        due("the kind stays", x.of(0, 8), 7);
        roundedEdges();
        likedAndCopied();
        due("of(0, 9)", x.of(0, 9), -1);
        due("of(0, -1)", x.of(0, -1), -1);
        due("of(1, 0)", x.of(1, 0), -1);
        due("of(-1, 0)", x.of(-1, 0), -1);
    }

    private static void tells(HallSheets x, int kind, int number, int before, int came, int ours) {
        String name = "sheet(0, " + kind + ", " + number + ")";
        due(name, x.sheet(0, kind, number), before);
        due(name + ": came", x.of(0, 3), came);
        due(name + ": ours", x.of(0, 4), ours);
        due(name + ": kind", x.of(0, 8), kind);
    }

    private static void roundedEdges() {
        HallSheets x = new HallSheets();
        x.hall(999, 0, 0);
        x.sheet(0, 2, 0);
        int[][] rows = {{4, 4, 0, 0}, {5, 5, 10, 10}, {14, 5, 10, 10}, {15, 14, 20, 10}, {999, 999, 999, 999},
            {994, 994, 990, 990}, {24, 24, 20, 20}, {994, 5, 990, 10}, {25, 25, 30, 30}};
        for (int[] row : rows) {
            x.truly(0, row[0], row[1]);
            due("rounded came of " + row[0], x.of(0, 3), row[2]);
            due("rounded ours of " + row[1], x.of(0, 4), row[3]);
        }
        x.hall(17, 0, 0);
        x.sheet(1, 2, 0);
        x.truly(1, 16, 16);
        due("rounded came: the list at most", x.of(1, 3), 17);
        due("rounded ours: told came at most", x.of(1, 4), 17);
    }

    private static void likedAndCopied() {
        HallSheets x = new HallSheets();
        x.hall(999, 0, 0);
        x.truly(0, 145, 139);
        x.sheet(0, 3, 100);
        due("liked 0", x.of(0, 4), 140);
        due("set(0, 5)", x.set(0, 5), 0);
        due("liked 5", x.of(0, 4), 145);
        x.sheet(0, 3, 99);
        due("liked 5 makes it just came", x.of(0, 4), 145);
        x.sheet(0, 3, 100);
        due("set(0, 6)", x.set(0, 6), 5);
        due("liked 6 would be above came", x.of(0, 4), 145);
        x.sheet(0, 3, 99);
        due("143, with 6 above came", x.of(0, 4), 143);
        x.sheet(0, 3, 90);
        due("130, with 6", x.of(0, 4), 136);
        x.sheet(0, 7, 0);
        due("139 copied is above came", x.of(0, 4), 139);
        x.truly(0, 193, 139);
        due("139 copied", x.of(0, 4), 193);
        x.truly(0, 192, 139);
        due("139 copied is just above", x.of(0, 4), 139);
        x.truly(0, 999, 198);
        due("198 copied", x.of(0, 4), 189);
        x.truly(0, 999, 503);
        due("503 copied", x.of(0, 4), 530);
        x.truly(0, 999, 530);
        due("530 copied", x.of(0, 4), 503);
        x.truly(0, 999, 4);
        due("4 copied", x.of(0, 4), 40);
        x.truly(0, 39, 4);
        due("4 copied is above", x.of(0, 4), 4);
    }

    private static void laws() {
        CHECKS.part("promise 5");
        HallSheets x = new HallSheets();
        int[] most = {9, 100, 100, 30, 100, 100, 100, 100, 100, 100};
        int[] first = {0, 50, 50, 10, 50, 50, 50, 50, 50, 50};
        for (int what = 0; what < 10; what++) {
            due("too great " + what, x.set(what, most[what] + 1), -1);
            due("below 0 " + what, x.set(what, -1), -1);
            due("greatest " + what, x.set(what, most[what]), first[what]);
            due("least " + what, x.set(what, 0), most[what]);
            due("just so " + what, x.set(what, what), 0);
        }
        for (int what = 0; what < 10; what++) {
            due("each its own " + what, x.set(what, 1), what);
        }
        due("set(-1, 0)", x.set(-1, 0), -1);
        due("set(10, 0)", x.set(10, 0), -1);
        due("set(most, 0)", x.set(MOST, 0), -1);
    }

    private static void writing() {
        sending();
        hearing();
        hearingRefusals();
    }

    private static void sending() {
        CHECKS.part("promise 6, 7");
        HallSheets x = new HallSheets();
        x.hall(80, 0, 0);
        x.hall(90, 0, 0);
        x.truly(0, 60, 40);
        x.truly(1, 0, 0);
        for (int what = 5; what <= 7; what++) {
            due("missing " + what, x.of(0, what), -4);
        }
        due("send(2)", x.send(2), -1);
        due("send(-2)", x.send(-2), -1);
        due("send(1)", x.send(1), 1);
        due("share of nobody", x.of(1, 7), 0);
        due("of(0, 5)", x.of(0, 5), -4);
        due("send(-1)", x.send(-1), 2);
        due("of(0, 5)", x.of(0, 5), 60);
        due("of(0, 6)", x.of(0, 6), 40);
        due("of(0, 7)", x.of(0, 7), 66);
        x.truly(0, 50, 10);
        due("what is written stays", x.of(0, 5), 60);
        x.sheet(0, 4, 40);
        due("what is written stays", x.of(0, 6), 40);
        due("send(0)", x.send(0), 2);
        due("stuffed came", x.of(0, 5), 90);
        due("stuffed ours", x.of(0, 6), 50);
        due("truly stays", x.of(0, 1), 50);
    }

    private static void hearing() {
        CHECKS.part("promise 8");
        HallSheets x = new HallSheets();
        for (int h = 0; h < 5; h++) {
            x.hall(999, 0, 0);
        }
        x.send(-1);
        Checks.numbers(x, 0, 2, 20000, -5, 7, LEAST, 3, 9);
        Checks.numbers(x, 1, 2, 15000, 4, 8, 2);
        due("hear(0, 1)", x.hear(0, 1), 3);
        int[][] written = {{9999, 9999}, {0, 0}, {7, 7}, {-4, -4}, {-4, -4}};
        for (int h = 0; h < 5; h++) {
            due("came of " + h, x.of(h, 5), written[h][0]);
            due("ours of " + h, x.of(h, 6), written[h][1]);
        }
        due("turned about", x.hear(1, 0), 3);
        due("missing by the second row", x.of(3, 5), -4);
        due("ours at most came", x.of(0, 6), 9999);
        due("ours at most came", x.of(2, 6), 7);
        due("came", x.of(2, 5), 8);
        Checks.numbers(x, 0, 0, 127, -128, -127, 128, 384);
        due("bytes", x.hear(0, 0), 2);
        due("127", x.of(0, 6), 127);
        due("-128", x.of(1, 5), -4);
        due("-127", x.of(2, 5), 0);
        due("128 is -128", x.of(3, 5), -4);
        due("384 is -128", x.of(4, 5), -4);
        Checks.numbers(x, 0, 1, 9999, -32768, -32767, 32768, 10000);
        due("shorts", x.hear(0, 0), 3);
        due("9999", x.of(0, 5), 9999);
        due("10000", x.of(4, 5), 9999);
        due("-32767", x.of(2, 5), 0);
        Checks.numbers(x, 2, 1);
        due("an empty row", x.hear(0, 2), 0);
    }

    private static void hearingRefusals() {
        HallSheets x = new HallSheets();
        x.hall(999, 0, 0);
        x.send(0);
        Checks.numbers(x, 0, 0, 1);
        Checks.numbers(x, 1, 1, 1);
        x.keep(2, 1, 0);
        due("no shelf", x.hear(8, 0), -1);
        due("no shelf", x.hear(0, -1), -1);
        due("no shelf ahead of nothing", x.hear(3, 8), -1);
        due("nothing", x.hear(3, 0), -11);
        due("nothing", x.hear(0, 3), -11);
        due("nothing ahead of a sheet", x.hear(2, 3), -11);
        due("a sheet", x.hear(2, 0), -12);
        due("a sheet", x.hear(0, 2), -12);
        due("two sheets", x.hear(2, 2), -12);
        due("two sorts", x.hear(0, 1), -12);
        due("still written", x.count(1), 0);
        due("one row", x.hear(1, 1), 1);
    }

    private static void figures() {
        CHECKS.part("promise 9");
        HallSheets x = new HallSheets();
        for (int h = 0; h < 8; h++) {
            x.hall(999, 0, 0);
        }
        Checks.numbers(x, 0, 1, 9999, 9999, 9999, 9999, 9999, 9999, 9999, -32768);
        Checks.numbers(x, 1, 1, 99, 100, 1099, 2000, 0, 7, 309, 500);
        x.hear(0, 1);
        long[] last = {2, 0, 0, 0, 0, 0, 0, 0, 0, 2};
        long[] first = {0, 2, 1, 1, 0, 0, 0, 1, 0, 1};
        for (int figure = 0; figure <= 9; figure++) {
            due("last " + figure, x.figures(figure, 0), last[figure]);
            due("first " + figure, x.figures(figure, 1), first[figure]);
        }
        for (int what = 0; what <= 1; what++) {
            due("figure 10", x.figures(10, what), -1);
            due("figure -1", x.figures(-1, what), -1);
        }
        due("what 2", x.figures(0, 2), -1);
        due("what -1", x.figures(0, -1), -1);
        CHECKS.part("promise 27");
        due("measure(0)", x.measure(0), 2 * 16 * 16 + 8 * 16);
        due("measure(1)", x.measure(1), 12 * 12 + 4 * 3 * 3 + 4 * 36);
        HallSheets y = new HallSheets();
        sentHall(y, 9, 0, 0, 9, 1);
        due("first of ours 1", y.figures(1, 1), 1);
        oddLast();
        roundShares();
    }

    private static void oddLast() {
        CHECKS.part("promise 10");
        HallSheets x = new HallSheets();
        for (int h = 0; h < 21; h++) {
            sentHall(x, 999, 0, 0, 999, h < 19 ? 105 : 7);
        }
        due("18 times 5", x.odds(5), 1);
        due("no 4", x.odds(4), 1000000000000000000L);
        x.truly(0, 999, 207);
        x.send(0);
        due("17 times 5 or more", x.odds(5), 18 * 9 + 1);
        due("once 7 or more", x.odds(7), 1000000000000000000L - 150094635296999121L);
        x.truly(18, 999, 103);
        x.send(18);
        due("the 19th does not count", x.odds(3), 1000000000000000000L);
        x.truly(1, 999, 99);
        x.send(1);
        due("without a last one the 19th counts", x.odds(5), 1 + 18 * 9 + 153 * 81);
        due("odds(10)", x.odds(10), -1);
        due("odds(-1)", x.odds(-1), -1);
        HallSheets y = new HallSheets();
        sentHall(y, 999, 0, 0, 999, 140);
        sentHall(y, 999, 0, 0, 999, 141);
        sentHall(y, 999, 0, 0, 999, 142);
        due("one of three", y.odds(0), 1000 - 729);
        due("none of three", y.odds(9), 1000);
    }

    private static void roundShares() {
        CHECKS.part("promise 11");
        HallSheets x = new HallSheets();
        int[][] halls = {{20, 1}, {20, 0}, {20, 20}, {40, 10}, {8, 2}, {3, 1}, {0, 0}, {33, 33}, {100, 7}, {999, 54}};
        for (int[] hall : halls) {
            sentHall(x, 999, 0, 0, hall[0], hall[1]);
        }
        x.hall(20, 0, 0);
        due("round(5)", x.round(5), 1);
        due("round(0)", x.round(0), 1);
        due("round(100)", x.round(100), 2);
        due("round(25)", x.round(25), 2);
        due("round(30)", x.round(30), 0);
        due("round(-1)", x.round(-1), 6);
        for (int p : new int[] {1, 4, 99, 101, 105, -2, -5, LEAST, MOST}) {
            due("round(" + p + ")", x.round(p), -1);
        }
        due("measure(2)", x.measure(2), 6);
        CHECKS.part("promise 12");
        due("may(1, 0)", x.may(1, 0), 2);
        due("may(10, 0)", x.may(10, 0), 11);
        due("may(12, 0)", x.may(12, 0), 5);
        due("may(999, 0)", x.may(999, 0), 2);
        due("may(980, 0)", x.may(980, 0), 21);
        due("may(0, 0)", x.may(0, 0), -1);
        due("may(1000, 0)", x.may(1000, 0), -1);
        due("may(0, 1)", x.may(0, 1), 1);
        due("may(100, 1)", x.may(100, 1), 1);
        due("may(1, 1)", x.may(1, 1), 100);
        due("may(50, 1)", x.may(50, 1), 2);
        due("may(96, 1)", x.may(96, 1), 25);
        due("may(99, 1)", x.may(99, 1), 100);
        due("may(101, 1)", x.may(101, 1), -1);
        due("may(-1, 1)", x.may(-1, 1), -1);
        due("may(5, 2)", x.may(5, 2), -1);
        due("may(5, -1)", x.may(5, -1), -1);
    }

    private static void clouds() {
        CHECKS.part("promise 13, 14");
        HallSheets x = new HallSheets();
        sentHall(x, 100, 0, 0, 100, 70);
        sentHall(x, 100, 0, 0, 100, 10);
        due("the second of two", x.middle(0), 70);
        due("no town", x.middle(1), -4);
        sentHall(x, 100, 1000, 0, 100, 33);
        due("the only one", x.middle(1), 33);
        sentHall(x, 100, 0, 0, 100, 50);
        due("the second of three", x.middle(0), 50);
        sentHall(x, 100, 0, 0, 0, 0);
        due("the third of four", x.middle(0), 50);
        due("left(0)", x.left(0), 20);
        due("left(1)", x.left(1), -40);
        due("left(2)", x.left(2), 0);
        due("left(4)", x.left(4), -50);
        x.hall(100, 0, 0);
        due("a missing one", x.left(5), FAR - 4);
        due("no hall", x.left(6), FAR - 1);
        due("no hall", x.left(-1), FAR - 1);
        due("middle(2)", x.middle(2), -1);
        due("middle(-1)", x.middle(-1), -1);
        HallSheets y = new HallSheets();
        sentHall(y, 10, 0, 0, 10, 10);
        due("a share of 100", y.middle(0), 100);
        HallSheets z = new HallSheets();
        sentHall(z, 10, 0, 0, 10, 0);
        due("a share of 0", z.middle(0), 0);
        trulyAll();
    }

    private static void trulyAll() {
        CHECKS.part("promise 15");
        HallSheets x = new HallSheets();
        sentHall(x, 50, 200, 95, 50, 50);
        sentHall(x, 50, 200, 94, 50, 50);
        sentHall(x, 50, 300, 100, 50, 50);
        sentHall(x, 50, 400, 0, 50, 50);
        sentHall(x, 50, 300, 0, 50, 47);
        x.hall(50, 400, 100);
        x.truly(5, 50, 50);
        sentHall(x, 50, 200, 95, 49, 49);
        sentHall(x, 50, 200, 95, 50, 49);
        due("sure", x.trulyAll(0), 2);
        due("by its kin", x.trulyAll(1), 1);
        due("by earlier, kin at 94", x.trulyAll(2), 1);
        due("kin missing", x.trulyAll(3), 0);
        due("not all", x.trulyAll(4), -4);
        due("a missing one", x.trulyAll(5), -4);
        due("not all came", x.trulyAll(6), -4);
        due("not all ours", x.trulyAll(7), -4);
        due("no hall", x.trulyAll(8), -1);
        due("no hall", x.trulyAll(-1), -1);
        x.send(5);
        due("kin written", x.trulyAll(3), 1);
        due("of it too", x.trulyAll(5), 2);
        x.sheet(4, 4, 500);
        x.send(4);
        due("more than its list", x.trulyAll(4), -4);
        due("kin above 95", x.trulyAll(2), 2);
        x.sheet(4, 6, 0);
        x.send(4);
        due("written, not true", x.trulyAll(4), 1);
        x.sheet(4, 4, 10);
        x.truly(4, 50, 40);
        x.send(4);
        due("ours as its list, came above", x.trulyAll(4), -4);
        x.sheet(4, 6, 0);
        x.send(4);
        due("measure(3)", x.measure(3), 8);
        HallSheets y = new HallSheets();
        sentHall(y, 20, 0, 0, 20, 20);
        sentHall(y, 20, 0, 0, 20, 19);
        due("kin at 95", y.trulyAll(0), 1);
        HallSheets z = new HallSheets();
        sentHall(z, 20, 0, 0, 1, 1);
        sentHall(z, 20, 0, 95, 20, 20);
        due("hall 0 is its kin", z.trulyAll(1), 2);
    }

    private static void watching() {
        CHECKS.part("promise 16, 17, 18");
        HallSheets x = new HallSheets();
        sentHall(x, 100, 0, 0, 100, 10);
        sentHall(x, 100, 0, 0, 100, 20);
        sentHall(x, 100, 0, 0, 100, 20);
        x.hall(100, 0, 0);
        due("watched", x.watch(1, true), 1);
        due("still watched", x.watch(1, true), 0);
        due("not watched", x.watch(0, false), 0);
        due("a missing one", x.watch(3, true), 1);
        due("count(4)", x.count(4), 2);
        due("no hall", x.watch(4, true), -1);
        due("no hall", x.watch(-1, false), -1);
        due("cost()", x.cost(), 20 * 2 - 30);
        due("ways(0)", x.ways(0), 3);
        due("ways(1)", x.ways(1), 3);
        x.watch(0, true);
        x.watch(1, false);
        due("cost()", x.cost(), 10 * 2 - 40);
        due("ways(0)", x.ways(0), 1);
        x.watch(2, true);
        due("two watched", x.cost(), 30 - 20 * 2);
        due("ways(0)", x.ways(0), 2);
        due("ways(1)", x.ways(1), 3);
        due("ways(2)", x.ways(2), -1);
        due("ways(-1)", x.ways(-1), -1);
        x.watch(1, true);
        due("all that are written", x.cost(), FAR - 4);
        due("all that are written", x.ways(0), -4);
        x.send(3);
        due("the missing one is watched too", x.cost(), FAR - 4);
        for (int h = 0; h < 4; h++) {
            due("no more", x.watch(h, false), 1);
        }
        due("none", x.cost(), FAR - 4);
        due("none", x.ways(1), -4);
        manyWays();
    }

    private static void manyWays() {
        HallSheets x = new HallSheets();
        for (int h = 0; h < 14; h++) {
            sentHall(x, 100, 0, 0, 100, h);
        }
        for (int h = 7; h < 14; h++) {
            x.watch(h, true);
        }
        due("7 of 14", x.ways(1), 3432);
        due("the costliest", x.ways(0), 3432);
        due("cost()", x.cost(), 7 * 70 - 7 * 21);
        x.watch(13, false);
        x.watch(6, true);
        due("all but the 30 costlier ones", x.ways(0), 3402);
        x.hall(5, 0, 0);
        due("a missing one does not count", x.ways(1), 3432);
        x.send(14);
        due("15 are too many", x.ways(1), -3);
        due("15 are too many", x.ways(0), -3);
        due("-1 ahead of -3", x.ways(5), -1);
        for (int h = 0; h < 14; h++) {
            x.watch(h, false);
        }
        due("-3 ahead of -4", x.ways(0), -3);
    }

    private static void sums() {
        CHECKS.part("promise 19, 20, 21, 22, 23");
        HallSheets x = new HallSheets();
        sentHall(x, 100, 30, 0, 80, 40);
        sentHall(x, 100, 30, 0, 20, 10);
        sentHall(x, 100, 0, 0, 60, 30);
        x.hall(100, 30, 0);
        x.truly(3, 50, 50);
        long[] third = {100, 50, 100, 50, 0, 0};
        for (int what = 0; what <= 5; what++) {
            due("sum(3, " + what + ")", x.sum(3, what), third[what]);
            due("sum(1, " + what + ")", x.sum(1, what), 0);
        }
        due("just half", x.won(), 0);
        due("helped()", x.helped(), 0);
        due("sent up", x.up(3, 90, 60), 1);
        long[] told = {100, 50, 90, 60, -10, 10};
        for (int what = 0; what <= 5; what++) {
            due("told sum(3, " + what + ")", x.sum(3, what), told[what]);
        }
        due("won()", x.won(), 1);
        due("helped()", x.helped(), 30);
        due("sent up again", x.up(3, 99999, 0), 0);
        due("the later one holds", x.sum(3, 2), 99999);
        due("won()", x.won(), 0);
        due("helped()", x.helped(), -99999 + 100 - 100);
        due("a district without halls", x.up(1, 0, 99999), 1);
        due("sum(1, 5)", x.sum(1, 5), 99999);
        due("won()", x.won(), 1);
        due("no more", x.down(3), 1);
        due("it wasn't", x.down(3), 0);
        due("written again", x.sum(3, 2), 100);
        due("by district 1 alone", x.helped(), 199998);
        HallSheets y = new HallSheets();
        sentHall(y, 100, 0, 0, 1, 1);
        due("by 1", y.won(), 1);
        due("nothing helped", y.helped(), 0);
        due("sent up", y.up(0, 1, 0), 1);
        due("helped against", y.helped(), -2);
        sumRefusals(x);
    }

    private static void sumRefusals(HallSheets x) {
        due("up(4, ..)", x.up(4, 0, 0), -1);
        due("up(-1, ..)", x.up(-1, 0, 0), -1);
        due("came 100000", x.up(0, 100000, 0), -1);
        due("ours 100000", x.up(0, 0, 100000), -1);
        due("came -1", x.up(0, -1, 0), -1);
        due("ours -1", x.up(0, 0, -1), -1);
        due("not told by these", x.down(0), 0);
        due("down(4)", x.down(4), -1);
        due("down(-1)", x.down(-1), -1);
        due("sum(4, 0)", x.sum(4, 0), FAR - 1);
        due("sum(-1, 0)", x.sum(-1, 0), FAR - 1);
        due("sum(0, 6)", x.sum(0, 6), FAR - 1);
        due("sum(0, -1)", x.sum(0, -1), FAR - 1);
    }

    private static void untruths() {
        CHECKS.part("promise 24");
        HallSheets x = new HallSheets();
        x.hall(50, 0, 0);
        x.hall(50, 0, 0);
        x.hall(50, 0, 0);
        Checks.numbers(x, 0, 1, 60, 20);
        Checks.numbers(x, 1, 1, 10, 20);
        x.truly(0, 50, 40);
        x.truly(1, 50, 25);
        x.hear(0, 1);
        due("by ours", x.untrue(0, 0), 30);
        due("by came", x.untrue(1, 0), 30);
        due("missing", x.untrue(2, 0), -4);
        due("missing", x.untrue(2, 1), -4);
        due("above its list", x.untrue(0, 1), 10);
        due("below its list", x.untrue(1, 1), 0);
        due("of all", x.untrue(-1, 0), 60);
        due("of all", x.untrue(-1, 1), 10);
        due("measure(4)", x.measure(4), 10);
        due("no hall", x.untrue(3, 0), -1);
        due("no hall", x.untrue(-2, 0), -1);
        due("what 2", x.untrue(0, 2), -1);
        due("what -1", x.untrue(-1, -1), -1);
        due("-1 ahead of -4", x.untrue(2, 2), -1);
        turns();
        recounts();
    }

    private static void turns() {
        CHECKS.part("promise 25");
        HallSheets x = new HallSheets();
        for (int h = 0; h < 4; h++) {
            x.hall(100, 0, 0);
        }
        Checks.numbers(x, 0, 1, 100, 100, 100, 100);
        Checks.numbers(x, 1, 1, 100, 100, 50, 0);
        x.truly(0, 100, 60);
        x.truly(1, 100, 50);
        x.truly(2, 100, 40);
        x.truly(3, 100, 100);
        x.hear(0, 1);
        due("250 of 400", x.turn(), 1);
        x.up(0, 100, 0);
        due("without sums sent up", x.turn(), 1);
        x.truly(3, 0, 0);
        Checks.numbers(x, 1, 1, 100, 100, 90, 0);
        x.hear(0, 1);
        due("180: 100, 100 fall", x.turn(), 2);
        Checks.numbers(x, 1, 1, 100, 100, 100, 90);
        x.hear(0, 1);
        due("380: 120, 100, 80, 80", x.turn(), 4);
        x.truly(0, 100, 61);
        due("380: 120, 100, 80, 78", x.turn(), -4);
        Checks.numbers(x, 1, 1, 50, 50, 50, 50);
        x.hear(0, 1);
        due("just half", x.turn(), 0);
        Checks.numbers(x, 0, 1, 100, -32768, 100, 100);
        Checks.numbers(x, 1, 1, 51, 50, 50, 50);
        x.truly(0, 100, 100);
        x.truly(2, 100, 50);
        x.truly(3, 100, 50);
        x.hear(0, 1);
        due("missing ones can't turn", x.turn(), -4);
        x.truly(2, 100, 49);
        due("just enough", x.turn(), 1);
        HallSheets y = new HallSheets();
        sentHall(y, 9, 0, 0, 1, 1);
        due("above by 1", y.turn(), -4);
    }

    private static void recounts() {
        CHECKS.part("promise 26");
        HallSheets x = new HallSheets();
        int[][] halls = {{9, 9}, {9, 0}, {100, 50}, {99, 49}, {19, 19}};
        for (int[] hall : halls) {
            sentHall(x, 100, 0, 0, hall[0], hall[1]);
        }
        x.hall(10, 1000, 0);
        // shares 100 0 50 49 100, middle 50: worths 50 50 0 1 50 at costs 1 1 11 10 2
        due("again(0, 0)", x.again(0, 0), 0);
        due("again(0, 1)", x.again(0, 1), 0);
        due("one, the later of two alike", x.again(1, 1), 2);
        due("again(1, 0)", x.again(1, 0), 50);
        due("both cheap ones", x.again(2, 1), 3);
        due("of 0 and 1 the later, and 4", x.again(3, 1), 18);
        due("all of worth", x.again(4, 1), 19);
        due("not enough for 3", x.again(13, 0), 150);
        due("enough for 3", x.again(14, 0), 151);
        due("without the worthless", x.again(300, 1), 27);
        due("again(-1, 0)", x.again(-1, 0), -1);
        due("again(301, 1)", x.again(301, 1), -1);
        due("again(5, 2)", x.again(5, 2), -1);
        due("again(5, -1)", x.again(5, -1), -1);
        x.sheet(5, 4, 30);
        x.truly(5, 10, 0);
        x.send(5);
        due("above its list by 30", x.again(8, 0), 150);
        due("it costs 5", x.again(9, 0), 200);
        due("which", x.again(9, 1), 32 + 19);
        x.sheet(5, 6, 0);
        x.send(5);
        due("just its list", x.again(9, 0), 150);
        due("which, for nothing", x.again(0, 1), 0);
        x.sheet(5, 4, 1);
        x.truly(5, 10, 10);
        x.send(5);
        due("above its list by 1", x.again(2, 0), 100);
        due("it costs 2", x.again(2, 1), 3);
        due("all of worth", x.again(6, 0), 200);
    }

    private static void lands() {
        CHECKS.part("promise 27, 28, 29");
        HallSheets x = new HallSheets();
        x.hall(100, 0, 0);
        x.hall(200, 1010, 0);
        x.hall(200, 500, 0);
        x.set(3, 0);
        x.set(1, 30);
        x.set(2, 40);
        x.set(4, 95);
        x.set(9, 12);
        due("land(5)", x.land(5), 30 + 80 + 60);
        due("ours of kin 0", x.of(0, 2), 28);
        due("ours of town", x.of(1, 2), 76);
        due("ours of kin 5", x.of(2, 2), 7);
        due("nothing is written by it", x.count(1), 3);
        x.send(-1);
        due("as now", x.odd(3, 50, 7), 50);
        due("measure(3)", x.measure(3), 1);
        drawnLands();
        due("measure(5)", x.measure(5), -1);
        due("measure(-1)", x.measure(-1), -1);
        due("odd(5, 1, 0)", x.odd(5, 1, 0), -1);
        due("odd(-1, 1, 0)", x.odd(-1, 1, 0), -1);
        due("odd(0, 0, 0)", x.odd(0, 0, 0), -1);
        due("odd(0, 51, 0)", x.odd(0, 51, 0), -1);
        due("odd(0, 50, most)", x.odd(4, 50, MOST), 50);
    }

    private static void drawnLands() {
        HallSheets x = new HallSheets();
        for (int h = 0; h < 6; h++) {
            x.hall(500 + h, 1000 * (h % 2) + 100 * h, 0);
        }
        x.set(2, 95);
        x.set(1, 3);
        x.set(3, 30);
        int[] choice = {97, 2, 50, 100, 0, 60};
        for (int kin = 0; kin < 6; kin++) {
            x.set(4 + kin, choice[kin]);
        }
        for (int seed : new int[] {0, 1, -1, 12345, LEAST, MOST}) {
            int z = seed;
            int all = 0;
            int due = x.land(seed);
            for (int h = 0; h < 6; h++) {
                z = z * 1103515245 + 12345;
                int came = (500 + h) * inHundred((h % 2 == 1 ? 95 : 3) + draw(z, 30)) / 100;
                z = z * 1103515245 + 12345;
                int ours = came * inHundred(choice[h] + draw(z, 30)) / 100;
                due("came in land " + seed, x.of(h, 1), came);
                due("ours in land " + seed, x.of(h, 2), ours);
                all += came;
            }
            due("all that came in land " + seed, due, all);
        }
        oddCounts();
    }

    private static int draw(int z, int spread) {
        long withoutSign = z < 0 ? z + 2147483648L : z;
        return (int) (withoutSign / 65536 % (2 * spread + 1)) - spread;
    }

    private static int inHundred(int n) {
        return n < 0 ? 0 : n > 100 ? 100 : n;
    }

    /** ODD counts the LANDS that, taken and sent one by one, measure as much. */
    private static void oddCounts() {
        for (int missing = 0; missing < 4; missing++) {
            for (int what = 0; what <= 4; what++) {
                oddCount(missing, what);
            }
        }
    }

    private static void oddCount(int missing, int what) {
        HallSheets x = new HallSheets();
        x.hall(999, 0, 0);
        x.hall(700, 300, 0);
        x.hall(20, 1100, 0);
        x.hall(800, 1200, 0);
        int[][] truly = {{900, 420}, {600, 300}, {20, 5}, {777, 333}};
        for (int h = 0; h < 4; h++) {
            x.truly(h, truly[h][0], truly[h][1]);
        }
        x.set(1, 90);
        x.set(2, 20);
        x.set(5, 90);
        x.set(6, 5);
        x.set(7, 100);
        sendOthers(x, missing);
        int now = x.measure(what);
        int got = x.odd(what, 9, -4);
        int first = x.odd(what, 1, -4);
        due("in mind only", x.of(1 - missing % 2, 5) + x.of(3, 1), (missing % 2 == 1 ? 900 : 600) + 777);
        int asOdd = 0;
        for (int z = -4; z <= 4; z++) {
            x.land(z);
            sendOthers(x, missing);
            boolean is = x.measure(what) >= now;
            asOdd += is ? 1 : 0;
            if (z == -4) {
                due("odd(" + what + ", 1, -4) without " + missing, first, is ? 1 : 0);
            }
        }
        due("odd(" + what + ", 9, -4) without " + missing, got, asOdd);
    }

    private static void sendOthers(HallSheets x, int missing) {
        for (int h = 0; h < 4; h++) {
            if (h != missing) {
                x.send(h);
            }
        }
    }

    private static void marks() {
        faults();
        truths();
        markRefusals();
        saying();
    }

    private static void faults() {
        CHECKS.part("promise 30");
        String[] good = {"A:c=0", "Z:9999>c", "B:!!c<1", "C:(c=0)", "D:((((((((c=0))))))))", "E:!(c=0&o=0)|k=1",
            "F:c+o-l*t%k<d+e-s*w%h", "G:0=0", "H:!(!c=1)&(o=2)", "I:1*10%100-1000=0", "J:(c=1)|(c=2)|c=3&h=1"};
        for (String text : good) {
            due(text, faultOf(text), -4);
        }
        String[] bad = {"^", "^a:c=0", "^1:c=0", "^[:c=0", "^@:c=0", "^:c=0", "A^", "A^c", "A^A", "A:^", "A:^:", "A:^B",
            "A:c^", "A:c=^", "A:^=c", "A:c^c", "A:c^0", "A:c^|", "A:c^&c=0", "A:c=0^=0", "A:c<c^<c", "A:c<^=1",
            "A:c=0^!c=0", "A:c=0&^", "A:c=0|^", "A:c=0|^|c=0", "A:c=0&^|c=0", "A:c=0|^&c=0", "A:^)", "A:(^)", "A:(c^)",
            "A:(c=0^", "A:(c=0)^=0", "A:(c=0)^!", "A:(c=0)^(", "A:(c=0)^)", "A:(c=0)&^", "A:c=0^)", "A:c=0^(", "A:c+^(",
            "A:!^", "A:!^+", "A:!^)", "A:0^0", "A:0^1=0", "A:1234^5", "A:c=0^0", "A:c=12^a", "A:c=1234^5", "A:c=0&1234^5",
            "A:c+^+", "A:^-c=0", "A:c=^-1", "A:^ c=0", "A:^C=0", "A:c%^%c=0", "A:^*c=0", "A:^&c=0", "A:c=0^:",
            "A:c=0^B:c=0", "A:((((((((^(c=0", "A:((((((((^(c=0)))))))))", "A:!(!(!(!(!(!(!(!(^(", "A:^a=0", "A:^z=0"};
        for (String text : bad) {
            int place = text.indexOf('^');
            String plain = text.substring(0, place) + text.substring(place + 1);
            due(plain, faultOf(plain), place);
        }
        HallSheets x = Checks.text(new HallSheets(), 0, "A:c=0");
        x.put(0, 4, -1);
        due("a byte below 0", x.fault(0), 4);
        x.put(0, 4, 0);
        due("a byte of 0", x.fault(0), 4);
        due("a ( left open", Checks.text(x, 0, "A:((c=0").fault(0), 7);
        due("and a good text behind it", Checks.text(x, 0, "A:c=0").fault(0), -4);
        due("and one with a ) too many", Checks.text(x, 0, "A:c=0)").fault(0), 5);
        due("and one too short", Checks.text(x, 0, "A:c").fault(0), 3);
        longTexts();
    }

    private static void longTexts() {
        StringBuilder text = new StringBuilder("A:");
        while (text.length() < 77) {
            text.append('!');
        }
        due("many !", faultOf(text + "c=0"), -4);
        due("80 too short", faultOf(text + "!!!"), 80);
        StringBuilder sums = new StringBuilder("A:c");
        while (sums.length() < 75) {
            sums.append("*c%o+1-");
            sums.append('k');
        }
        due("a long sum", faultOf(sums + "=9"), -4);
    }

    /** On a new object: one is used for 512 calls at most. */
    private static int faultOf(String text) {
        return Checks.text(new HallSheets(), 0, text).fault(0);
    }

    private static void truths() {
        CHECKS.part("promise 31, 32");
        String[] hold = {"c=500", "o=123", "l=600", "t=1", "k=3", "d=2", "e=81", "s=24", "w=1", "h=1", "c>o", "o<c",
            "!c=o", "!!c=c", "c-o-l<0", "10-3-2=5", "100%30*2=20", "100*30%7=4", "2+3*4=14", "7%0=0", "0-7%0=0",
            "c*c*c*c<0", "c*c*c*c%1000=0-440", "9999*9999*9999<0", "9999*9999*9999*9999>0", "1=0|2=2&3=3", "1=1|2=3&3=4",
            "!1=2&1=1", "!(1=2&1=1)", "!(1=1)|1=1", "(1=1|1=1)&(1=2|!1=2)", "((1=2|1=1))", "0-5<0", "0-7+7=0",
            "9999*9999*9999%10<0", "1=1&!(2=2&!(3=3&!(4=5)))|0=1", "!(1=1&1=2)&1=1", "c-c*2=0-c", "8%5=3", "o%10=3",
            "!(!(!(!(!(!(!(!(1=1&c>o))))))))", "((((((((1=2))))))))|1=1", "4096*4096*128-1>0", "4096*4096*128<0"};
        String[] fail = {"c=499", "c>500", "c<500", "t=0", "w=0", "h=0", "1=2&1=1|1=2", "!(1=1|1=2)", "1=1&1=2",
            "10-3-2=9", "100%30*2=40", "7%0=7", "!c=c", "!!c=o", "(1=1)&1=2", "!(1=1)", "2+3*4=20", "1=1&1=2|0=1"};
        for (String text : hold) {
            due(text, heldBy(text), 'Q');
        }
        for (String text : fail) {
            due(text, heldBy(text), -4);
        }
        HallSheets x = Checks.text(twoHalls(), 3, "Q:0=0");
        x.mark(3);
        due("a missing hall", x.marked(0), -4);
        x = Checks.text(twoHalls(), 3, "Q:w=0");
        x.mark(3);
        x.watch(1, false);
        due("not watched", x.marked(1), 'Q');
        StringBuilder full = new StringBuilder("Q:");
        while (full.length() < 76) {
            full.append('!');
        }
        x = Checks.text(twoHalls(), 3, full + "t=10");
        due("80 bytes, a number last", x.mark(3), 0);
        due("t is 1, not 10", x.marked(1), -4);
        Checks.text(x, 3, full.append("11=1").substring(0, 80)).mark(3);
        due("11 is not 1", x.marked(1), -4);
        due("no hall", x.marked(2), -1);
        due("no hall", x.marked(-1), -1);
    }

    /** A missing HALL 0, and HALL 1 with a number of its own in each FIELD. */
    private static HallSheets twoHalls() {
        HallSheets x = new HallSheets();
        x.hall(700, 0, 0);
        x.hall(600, 1320, 81);
        x.truly(1, 500, 123);
        x.send(1);
        x.watch(1, true);
        return x;
    }

    private static int heldBy(String text) {
        HallSheets x = twoHalls();
        Checks.text(x, 3, "Q:" + text);
        due("mark of " + text, x.mark(3), 0);
        return x.marked(1);
    }

    private static void markRefusals() {
        CHECKS.part("promise 31");
        HallSheets x = new HallSheets();
        x.hall(50, 0, 0);
        x.keep(1, 1, 0);
        Checks.numbers(x, 2, 1, 65, 58, 99, 61, 48);
        Checks.numbers(x, 4, 2, 65, 58, 99, 61, 48);
        for (int d : new int[] {-1, 8, LEAST, MOST}) {
            due("mark(" + d + ")", x.mark(d), -1);
            due("fault(" + d + ")", x.fault(d), -1);
        }
        due("nothing", x.mark(0), -11);
        due("nothing", x.fault(0), -11);
        due("a sheet", x.mark(1), -12);
        due("a sheet", x.fault(1), -12);
        due("shorts", x.mark(2), -12);
        due("shorts", x.fault(2), -12);
        due("ints", x.mark(4), -12);
        due("ints", x.fault(4), -12);
        due("an empty row", Checks.text(x, 3, "").mark(3), -100);
        due("an empty row", x.fault(3), 0);
        due("A:c", Checks.text(x, 3, "A:c").mark(3), -103);
        due("none of these", x.count(2), 0);
        Checks.text(x, 3, "A:c=0");
        for (int m = 0; m < 10; m++) {
            due("the next", x.mark(3), m);
        }
        due("no room", x.mark(3), -2);
        due("-1 ahead of -2", x.mark(8), -1);
        due("-2 ahead of -11", x.mark(0), -2);
        due("-2 ahead of -12", x.mark(1), -2);
        due("-2 ahead of a fault", Checks.text(x, 3, "A").mark(3), -2);
        due("a fault can be asked still", x.fault(3), 1);
        due("count(2)", x.count(2), 10);
        due("an image with all its marks", x.image(), 1);
        due("lands with all its marks", x.odd(0, 2, 0), 2);
        due("restored with all its marks", x.restore(), 1);
        due("count(2)", x.count(2), 10);
    }

    private static void saying() {
        CHECKS.part("promise 32, 33");
        HallSheets x = new HallSheets();
        for (int h = 0; h < 5; h++) {
            sentHall(x, 100, 0, 0, 50 + h, 10 * h);
        }
        x.hall(100, 0, 0);
        Checks.text(x, 0, "M:h=1|h=2");
        due("mark(0)", x.mark(0), 0);
        due("mark(0)", Checks.text(x, 0, "N:h>1&h<4").mark(0), 1);
        due("mark(0)", Checks.text(x, 0, "M:h=4").mark(0), 2);
        Checks.text(x, 0, "X:h<9");
        long[] names = {-4, 'M', 'M', 'N', 'M', -4};
        for (int h = 0; h < 6; h++) {
            due("marked(" + h + ")", x.marked(h), names[h]);
        }
        due("said(M, 0)", x.said('M', 0), 3);
        due("said(M, 1)", x.said('M', 1), 70);
        due("only first marks", x.said('N', 0), 1);
        due("only first marks", x.said('N', 1), 30);
        due("a text that is no mark", x.said('X', 0), 0);
        due("said(A, 1)", x.said('A', 1), 0);
        due("said(Z, 0)", x.said('Z', 0), 0);
        due("said([, 0)", x.said('[', 0), -1);
        due("said(@, 0)", x.said('@', 0), -1);
        due("said(m, 0)", x.said('m', 0), -1);
        due("said(-4, 0)", x.said(-4, 0), -1);
        due("said(M, 2)", x.said('M', 2), -1);
        due("said(M, -1)", x.said('M', -1), -1);
    }

    private static void images() {
        CHECKS.part("promise 34, 35");
        HallSheets x = new HallSheets();
        sentHall(x, 100, 1110, 40, 90, 30);
        x.hall(60, 0, 0);
        x.sheet(0, 5, 7);
        x.watch(0, true);
        x.up(1, 5, 4);
        x.set(0, 3);
        x.set(3, 4);
        Checks.text(x, 0, "A:c=90").mark(0);
        due("restore() ahead", x.restore(), -3);
        due("image()", x.image(), 2);
        x.hall(7, 0, 0);
        x.truly(0, 10, 10);
        x.sheet(0, 1, 0);
        x.send(-1);
        x.watch(0, false);
        x.watch(1, true);
        x.up(1, 7, 7);
        x.up(0, 1, 1);
        x.set(0, 9);
        x.set(3, 9);
        Checks.text(x, 0, "B:c=10").mark(0);
        x.keep(1, 1, 2);
        due("restore()", x.restore(), 2);
        restored(x);
        due("once more", x.restore(), 2);
        due("sent up once more", x.sum(1, 2), 5);
        x.hall(40, 0, 0);
        x.truly(2, 30, 20);
        x.sheet(2, 4, 8);
        x.watch(2, true);
        x.send(2);
        due("and again", x.restore(), 2);
        due("a hall behind it is new", x.hall(70, 0, 0), 2);
        due("without a sheet's kind", x.of(2, 8), 0);
        due("without truth", x.of(2, 1), 0);
        due("without truth", x.of(2, 2), 0);
        due("without a number", x.sheet(2, 4, 0) + x.of(2, 3), 0);
        due("missing", x.of(2, 5), -4);
        due("missing", x.count(1), 2);
        due("not watched", x.watch(2, false), 0);
        due("restored again", x.restore(), 2);
        x.send(-1);
        due("an image anew", x.image(), 2);
        due("none missing", x.count(1), 0);
        counts();
    }

    private static void restored(HallSheets x) {
        due("list", x.of(0, 0), 100);
        due("truly came", x.of(0, 1), 90);
        due("truly ours", x.of(0, 2), 30);
        due("kind", x.of(0, 8), 5);
        due("number", x.of(0, 4), 37);
        due("written", x.of(0, 5), 90);
        due("written", x.of(0, 6), 30);
        due("missing", x.of(1, 5), -4);
        due("watched", x.watch(0, true), 0);
        due("watched", x.watch(1, false), 0);
        due("sent up", x.sum(1, 2), 5);
        due("sent up", x.sum(1, 3), 4);
        due("not sent up", x.down(0), 0);
        due("sent up", x.down(1), 1);
        due("marks", x.count(2), 1);
        due("mark", x.marked(0), 'A');
        due("liked", x.set(0, 3), 3);
        due("spread", x.set(3, 4), 4);
        due("shelves stay: a row", x.element(0, 0), 'B');
        due("shelves stay: a sheet", x.weight(1), 10);
        due("no such hall", x.of(2, 0), -1);
    }

    private static void counts() {
        CHECKS.part("promise 36");
        HallSheets x = new HallSheets();
        x.hall(100, 0, 0);
        x.hall(200, 10, 0);
        x.hall(300, 20, 0);
        x.truly(0, 90, 80);
        x.truly(1, 70, 60);
        x.truly(2, 50, 40);
        x.send(0);
        x.send(1);
        x.watch(2, true);
        Checks.text(x, 0, "A:c=0").mark(0);
        long[] due = {3, 1, 1, 600, 1, 160, 140};
        for (int what = 0; what <= 6; what++) {
            due("count(" + what + ")", x.count(what), due[what]);
        }
        due("count(7)", x.count(7), -1);
        due("count(-1)", x.count(-1), -1);
        due("count(least)", x.count(LEAST), -1);
    }

    private static void rows() {
        CHECKS.part("promise 38, 39, 40");
        HallSheets x = new HallSheets();
        x.hall(9, 0, 0);
        due("row(8, 0, 1)", x.row(8, 0, 1), -1);
        due("row(-1, 0, 1)", x.row(-1, 0, 1), -1);
        due("row(0, 3, 1)", x.row(0, 3, 1), -1);
        due("row(0, -1, 1)", x.row(0, -1, 1), -1);
        due("row(0, 0, 81)", x.row(0, 0, 81), -1);
        due("row(0, 0, -1)", x.row(0, 0, -1), -14);
        due("row(0, 0, least)", x.row(0, 0, LEAST), -14);
        due("-1 ahead of -14", x.row(0, 3, -1), -1);
        due("-1 ahead of -14", x.row(9, 0, -1), -1);
        due("nothing yet", x.put(0, 0, 1), -11);
        due("row(7, 2, 80)", x.row(7, 2, 80), 0);
        due("put at the end", x.put(7, 79, LEAST), 0);
        due("element", x.element(7, 79), LEAST);
        due("behind the end", x.put(7, 80, 1), -13);
        due("below 0", x.put(7, -1, 1), -13);
        due("0 at first", x.element(7, 0), 0);
        due("row(0, 0, 2)", x.row(0, 0, 2), 0);
        due("behind the end", x.put(0, 2, 1), -13);
        due("put(0, 1, 200)", x.put(0, 1, 200), 0);
        due("a byte", x.element(0, 1), -56);
        due("put(0, 1, -129)", x.put(0, 1, -129), 0);
        due("a byte", x.element(0, 1), 127);
        due("row anew", x.row(0, 1, 2), 0);
        due("0 at first", x.element(0, 1), 0);
        due("put(0, 0, 40000)", x.put(0, 0, 40000), 0);
        due("a short", x.element(0, 0), 40000 - 65536);
        due("put(0, 0, 65537)", x.put(0, 0, 65537), 0);
        due("a short", x.element(0, 0), 1);
        due("no shelf", x.put(8, 0, 0), -1);
        due("no shelf", x.put(-1, 0, 0), -1);
        x.keep(1, 1, 0);
        due("a sheet", x.put(1, 0, 0), -12);
        due("a sheet, no place", x.put(1, -1, 0), -12);
        due("an empty row", x.row(2, 0, 0), 0);
        due("no place in it", x.put(2, 0, 0), -13);
        elements(x);
        copies();
    }

    private static void elements(HallSheets x) {
        due("no shelf", thrown(x, 8, 0), 1);
        due("no shelf", thrown(x, -1, 0), 1);
        due("no shelf, no place", thrown(x, LEAST, -1), 1);
        due("nothing", thrown(x, 5, 0), 2);
        due("a sheet", thrown(x, 1, 0), 2);
        due("no place", thrown(x, 0, 2), 2);
        due("no place", thrown(x, 0, -1), 2);
        due("no place", thrown(x, 0, MOST), 2);
        due("an empty row", thrown(x, 2, 0), 2);
        due("a place", thrown(x, 0, 1), 0);
        due("nothing any more", x.keep(0, 0, 99), 0);
        due("nothing any more", thrown(x, 0, 1), 2);
    }

    /** 1: IllegalArgumentException, 2: IllegalStateException, 0: nothing was thrown. */
    private static int thrown(HallSheets x, int d, int i) {
        try {
            x.element(d, i);
            return 0;
        } catch (IllegalArgumentException e) {
            return e.getClass() == IllegalArgumentException.class ? 1 : 3;
        } catch (IllegalStateException e) {
            return e.getClass() == IllegalStateException.class ? 2 : 3;
        }
    }

    private static void copies() {
        CHECKS.part("promise 41");
        HallSheets x = new HallSheets();
        x.hall(9, 0, 0);
        Checks.numbers(x, 0, 2, 1, 2, 3, 4, 5);
        Checks.numbers(x, 1, 2, 7, 8, 9);
        due("copy", x.copy(0, 3, 1, 1, 2), 2);
        row(x, 1, 7, 4, 5);
        due("onto itself, upwards", x.copy(0, 0, 0, 1, 4), 4);
        row(x, 0, 1, 1, 2, 3, 4);
        due("onto itself, downwards", x.copy(0, 1, 0, 0, 4), 4);
        row(x, 0, 1, 2, 3, 4, 4);
        due("all of a row", x.copy(1, 0, 1, 0, 3), 3);
        due("none", x.copy(0, 5, 1, 3, 0), 0);
        due("none, behind the end", x.copy(0, 6, 1, 0, 0), -13);
        due("none, behind the end", x.copy(0, 0, 1, 4, 0), -13);
        due("too many there", x.copy(0, 0, 1, 0, 4), -13);
        due("too many here", x.copy(1, 0, 0, 0, 4), -13);
        due("behind the end", x.copy(0, 4, 1, 0, 2), -13);
        due("behind the end", x.copy(0, 0, 1, 2, 2), -13);
        due("below 0", x.copy(0, -1, 1, 0, 1), -13);
        due("below 0", x.copy(0, 0, 1, -1, 1), -13);
        due("n below 0", x.copy(0, 0, 1, 0, -1), -13);
        due("far", x.copy(0, MOST, 1, 0, MOST), -13);
        due("far", x.copy(0, 1, 1, 1, MOST), -13);
        due("far", x.copy(0, LEAST, 1, LEAST, LEAST), -13);
        row(x, 1, 7, 4, 5);
        Checks.numbers(x, 2, 1, 1);
        x.keep(3, 1, 0);
        due("no shelf", x.copy(8, 0, 1, 0, 1), -1);
        due("no shelf", x.copy(0, 0, -1, 0, 1), -1);
        due("no shelf ahead of nothing", x.copy(4, 0, 8, 0, 1), -1);
        due("nothing", x.copy(4, 0, 0, 0, 1), -11);
        due("nothing", x.copy(0, 0, 4, 0, 1), -11);
        due("nothing ahead of a sheet", x.copy(3, 0, 4, 0, 1), -11);
        due("a sheet", x.copy(3, 0, 0, 0, 1), -12);
        due("a sheet", x.copy(0, 0, 3, 0, 1), -12);
        due("two sorts", x.copy(0, 0, 2, 0, 1), -12);
        due("two sorts ahead of no place", x.copy(0, 9, 2, 0, 1), -12);
    }

    private static void row(HallSheets x, int d, int... due) {
        for (int i = 0; i < due.length; i++) {
            due("element " + i + " of " + d, x.element(d, i), due[i]);
        }
    }

    private static void sheetsOnShelves() {
        CHECKS.part("promise 37, 42, 43");
        HallSheets x = new HallSheets();
        x.hall(40, 0, 0);
        x.hall(40, 0, 0);
        x.truly(1, 1, 0);
        int[][] due = {{0, 10, 1}, {1, 11, 1}, {2, 15, 1}, {3, 29, 9}, {4, 20, 101}, {5, 28, 1}, {6, 22, -15}, {7, 7, 201}};
        for (int[] kind : due) {
            x.sheet(1, kind[0], 9);
            due("keep", x.keep(4, 1, 1), 0);
            due("weight of " + kind[0], x.weight(4), kind[1]);
            due("toss of " + kind[0], x.toss(4), kind[2]);
            x.sheet(0, kind[0], 9);
            due("keep", x.keep(5, 1, 0), 0);
            due("weight of " + kind[0], x.weight(5), kind[1]);
            due("nobody came to " + kind[0], x.toss(5), -15);
        }
        x.sheet(1, 3, 0);
        x.keep(4, 1, 1);
        due("made with 0", x.toss(4), 0);
        due("weight", x.weight(4), 20);
        x.sheet(1, 4, 999);
        x.truly(1, 0, 0);
        due("as it was then", x.weight(4), 20);
        due("as it was then", x.toss(4), 0);
        x.row(6, 0, 3);
        keepRefusals(x);
    }

    private static void keepRefusals(HallSheets x) {
        for (int d : new int[] {-1, 8, LEAST, MOST}) {
            due("keep(" + d + ", 0, 0)", x.keep(d, 0, 0), -1);
            due("keep(" + d + ", 1, 0)", x.keep(d, 1, 0), -1);
            due("weight(" + d + ")", x.weight(d), -1);
            due("toss(" + d + ")", x.toss(d), -1);
        }
        due("no hall", x.keep(4, 1, 2), -1);
        due("no hall", x.keep(4, 1, -1), -1);
        due("what 2", x.keep(4, 2, 0), -1);
        due("what -1", x.keep(4, -1, 0), -1);
        due("it stays", x.weight(4), 20);
        due("a row", x.weight(6), -12);
        due("a row", x.toss(6), -12);
        due("nothing", x.weight(0), -11);
        due("nothing", x.toss(0), -11);
        due("the others do not matter", x.keep(4, 0, LEAST), 0);
        due("nothing any more", x.weight(4), -11);
        due("nothing in place of a row", x.keep(6, 0, 0), 0);
        due("nothing any more", x.put(6, 0, 0), -11);
        due("a sheet in place of it", x.keep(6, 1, 0), 0);
        due("a sheet", x.weight(6), 22 - 15);
        due("a row in place of it", x.row(6, 0, 3), 0);
        due("a row", x.weight(6), -12);
    }
}

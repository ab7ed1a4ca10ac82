/** The boundaries that promises 1 to 8 name: halls, sheets. */
public final class HallEdgesTest {
    private static final int LEAST = Edges.LEAST;
    private static final int MOST = Edges.MOST;
    private static final Edges EDGES = new Edges("HallEdgesTest");

    private HallEdgesTest() {
    }

    public static void main(String[] args) {
        newObject();
        lastCall();
        lists();
        toldOfHalls();
        mostHalls();
        trulyCame();
        trulyOurs();
        kindsAndNumbers();
        laws();
        ofHalls();
        sharesOfHalls();
        rounded();
        made();
        stuffedTurnedBossed();
        copied();
        sending();
        heldNumbers();
        leastNumbers();
        behindTheEnd();
        hearRefusals();
        EDGES.end(1, 8);
    }

    private static void due(String call, long got, long want) {
        EDGES.due(call, got, want);
    }

    private static void newObject() {
        EDGES.sentence(1, "No HALLS, MARKS.");
        HallSheets x = new HallSheets();
        for (int what = 0; what <= 6; what++) {
            due("count(" + what + ")", x.count(what), 0);
        }
        due("of(0, 0)", x.of(0, 0), -1);
        due("said('A', 0)", x.said('A', 0), 0);
        for (int d = 0; d < 8; d++) {
            due("weight(" + d + ")", x.weight(d), -11);
            due("put(" + d + ", 0, 0)", x.put(d, 0, 0), -11);
        }
        due("restore()", x.restore(), -3);
        for (int district = 0; district < 4; district++) {
            due("down(" + district + ")", x.down(district), 0);
        }
        Edges.halls(30);
        due("another object's HALLS are not its own", x.count(0), 0);
        due("first HALL", x.hall(1, 0, 0), 0);
        due("first MARK", Checks.text(x, 0, "A:c=0").mark(0), 0);
    }

    private static void lastCall() {
        EDGES.sentence(1, "An object is used for at most 512 calls");
        HallSheets x = Edges.halls(30);
        for (int call = 31; call < 512; call++) {
            x.image();
        }
        due("the 512th call", x.count(0), 30);
        HallSheets dear = Edges.halls(14);
        dear.send(-1);
        for (int h = 0; h < 7; h++) {
            dear.watch(h, true);
        }
        for (int call = 23; call <= 512; call++) {
            due("call " + call, call % 2 == 0 ? dear.ways(0) : dear.odd(1, 50, call), call % 2 == 0 ? 3432 : 50);
        }
    }

    private static void lists() {
        EDGES.sentence(2, "a LIST (1 .. 999)");
        HallSheets x = new HallSheets();
        due("list 0", x.hall(0, 0, 0), -1);
        due("list 1000", x.hall(1000, 0, 0), -1);
        due("list -1", x.hall(-1, 0, 0), -1);
        due("list least", x.hall(LEAST, 0, 0), -1);
        due("list most", x.hall(MOST, 0, 0), -1);
        due("none of them is a HALL", x.count(0), 0);
        due("list 1", x.hall(1, 0, 0), 0);
        due("list 999", x.hall(999, 0, 0), 1);
        due("of(0, 0)", x.of(0, 0), 1);
        due("of(1, 0)", x.of(1, 0), 999);
        EDGES.sentence(2, "EARLIER (0 .. 100 hundredths who chose so last time)");
        for (int earlier : new int[] {-1, 101, LEAST, MOST}) {
            due("earlier " + earlier, x.hall(5, 0, earlier), -1);
        }
        due("earlier 0", x.hall(5, 0, 0), 2);
        due("earlier 100", x.hall(5, 0, 100), 3);
        x.send(-1);
        Checks.text(x, 0, "E:h=2&e=0|h=3&e=100").mark(0);
        due("each has its own", x.said('E', 0), 2);
    }

    private static void toldOfHalls() {
        EDGES.sentence(2, "told: 1000 if of the TOWN, 100 times KIN and 10 times DISTRICT, together");
        int[] good = {0, 30, 500, 530, 1000, 1030, 1500, 1530};
        HallSheets x = new HallSheets();
        for (int h = 0; h < good.length; h++) {
            due("told " + good[h], x.hall(9, good[h], 0), h);
        }
        for (int h = 0; h < good.length; h++) {
            String same = "S:t=" + good[h] / 1000 + "&k=" + good[h] / 100 % 10 + "&d=" + good[h] / 10 % 10 + "&h=" + h;
            HallSheets y = new HallSheets();
            for (int other = 0; other <= h; other++) {
                y.hall(9, good[other], 0);
            }
            y.send(-1);
            Checks.text(y, 0, same).mark(0);
            due("TOWN, KIN, DISTRICT of told " + good[h], y.marked(h), 'S');
        }
        int[] bad = {1, 5, 9, -1, -9, -10, -100, -1000, 40, 90, 600, 900, 540, 630, 640, 531, 1001, 1040, 1090, 1600,
            1900, 1531, 1540, 1630, 2000, 2530, 9000, 10000, 11530, 100000, LEAST, LEAST + 8, MOST, MOST - 7};
        for (int told : bad) {
            due("told " + told, x.hall(9, told, 0), -1);
        }
        due("none of them is a HALL", x.count(0), good.length);
    }

    private static void mostHalls() {
        EDGES.sentence(2, "HALLS 0 .. 29 as they come");
        HallSheets x = new HallSheets();
        for (int h = 0; h < 30; h++) {
            due("HALL " + h, x.hall(100 + h, 0, 0), h);
        }
        due("one more", x.hall(1, 0, 0), -2);
        due("and once more", x.hall(1, 0, 0), -2);
        due("count(0)", x.count(0), 30);
        due("of(29, 0)", x.of(29, 0), 129);
        due("of(30, 0)", x.of(30, 0), -1);
        EDGES.sentence(2, "-1; -2.");
        due("list 0", x.hall(0, 0, 0), -1);
        due("told 1", x.hall(1, 1, 0), -1);
        due("earlier 101", x.hall(1, 0, 101), -1);
        due("nothing wrong but the room", x.hall(999, 1530, 100), -2);
    }

    private static void trulyCame() {
        EDGES.sentence(3, "CAME (0 .. LIST)");
        for (int list : new int[] {1, 2, 50, 999}) {
            HallSheets x = Edges.halls(0);
            x.hall(list, 0, 0);
            due("came -1", x.truly(0, -1, 0), -1);
            due("came above the LIST " + list, x.truly(0, list + 1, 0), -1);
            due("came most", x.truly(0, MOST, 0), -1);
            due("came least", x.truly(0, LEAST, LEAST), -1);
            due("came as the LIST " + list, x.truly(0, list, 0), 0);
            due("came 0", x.truly(0, 0, 0), list);
        }
        EDGES.sentence(3, "0, 0 at first");
        HallSheets x = Edges.halls(1);
        due("of(0, 1)", x.of(0, 1), 0);
        due("of(0, 2)", x.of(0, 2), 0);
        EDGES.sentence(3, "CAME that it was");
        due("at first", x.truly(0, 7, 3), 0);
        due("then", x.truly(0, 999, 3), 7);
        due("a refused call", x.truly(0, 1000, 3), -1);
        due("does not matter", x.truly(0, 0, 0), 999);
        EDGES.sentence(3, "-1 no such thing");
        for (int h : new int[] {-1, 1, 29, 30, LEAST, MOST}) {
            due("HALL " + h, x.truly(h, 0, 0), -1);
        }
        due("HALL 0 of none", new HallSheets().truly(0, 0, 0), -1);
        due("HALL 29 of 30", Edges.halls(30).truly(29, 1, 1), 0);
    }

    private static void trulyOurs() {
        EDGES.sentence(3, "OURS (0 .. CAME)");
        HallSheets x = Edges.halls(1);
        due("ours -1", x.truly(0, 5, -1), -1);
        due("ours least", x.truly(0, 5, LEAST), -1);
        due("ours above CAME", x.truly(0, 5, 6), -1);
        due("ours above CAME of 0", x.truly(0, 0, 1), -1);
        due("ours above the LIST", x.truly(0, 999, 1000), -1);
        due("of(0, 1)", x.of(0, 1), 0);
        due("ours as CAME", x.truly(0, 5, 5), 0);
        due("of(0, 2)", x.of(0, 2), 5);
        due("ours 0", x.truly(0, 5, 0), 5);
        due("of(0, 2)", x.of(0, 2), 0);
        due("ours as the LIST", x.truly(0, 999, 999), 5);
        due("of(0, 2)", x.of(0, 2), 999);
    }

    private static void kindsAndNumbers() {
        EDGES.sentence(4, "A SHEET of a KIND (0 at first)");
        HallSheets x = Edges.halls(30);
        due("of(0, 8)", x.of(0, 8), 0);
        due("of(29, 8)", x.of(29, 8), 0);
        EDGES.sentence(4, "the KIND that it was");
        for (int kind = 0; kind <= 7; kind++) {
            due("KIND " + kind, x.sheet(29, kind, 0), Math.max(0, kind - 1));
            due("of(29, 8)", x.of(29, 8), kind);
        }
        EDGES.sentence(4, "0 SHEET .. 7 COPIED");
        for (int kind : new int[] {-1, 8, LEAST, MOST}) {
            due("KIND " + kind, x.sheet(29, kind, 0), -1);
        }
        EDGES.sentence(4, "a NUMBER (0 .. 999; 0 at first)");
        for (int number : new int[] {-1, 1000, LEAST, MOST}) {
            due("NUMBER " + number, x.sheet(29, 0, number), -1);
        }
        due("the KIND stays", x.of(29, 8), 7);
        due("NUMBER 0", x.sheet(29, 4, 0), 7);
        due("of(29, 3)", x.of(29, 3), 0);
        due("NUMBER 999", x.sheet(29, 4, 999), 4);
        due("of(29, 3)", x.of(29, 3), 999);
        EDGES.sentence(4, "-1 no such thing");
        for (int h : new int[] {-1, 30, LEAST, MOST}) {
            due("HALL " + h, x.sheet(h, 0, 0), -1);
        }
        due("HALL 1 of one", Edges.halls(1).sheet(1, 0, 0), -1);
    }

    private static void laws() {
        int[] most = {9, 100, 100, 30, 100, 100, 100, 100, 100, 100};
        int[] first = {0, 50, 50, 10, 50, 50, 50, 50, 50, 50};
        String[] words = {"the LIKED one (0 .. 9, told for all; 0 at first)", "BASE of TOWN and HILLS (0 .. 100; 50 at first)",
            "SPREAD (0 .. 30; 10 at first)", "CHOICE of each KIN (0 .. 100; 50 at first)"};
        HallSheets x = new HallSheets();
        for (int what = 0; what <= 9; what++) {
            EDGES.sentence(5, words[what == 0 ? 0 : what <= 2 ? 1 : what == 3 ? 2 : 3]);
            due("one above", x.set(what, most[what] + 1), -1);
            due("one below", x.set(what, -1), -1);
            due("far above", x.set(what, MOST), -1);
            due("far below", x.set(what, LEAST), -1);
            due("what it was at first", x.set(what, most[what]), first[what]);
            due("the greatest", x.set(what, 0), most[what]);
            due("the least", x.set(what, 1), 0);
        }
        EDGES.sentence(5, "CHOICE of KIN 0 .. 5 (4 .. 9)");
        for (int what : new int[] {-1, 10, LEAST, MOST}) {
            due("set(" + what + ", 0)", x.set(what, 0), -1);
        }
        for (int what = 0; what <= 9; what++) {
            due("none of these by the last calls", x.set(what, 5), 1);
        }
    }

    private static void ofHalls() {
        EDGES.sentence(6, "0 LIST .. 8 KIND. -1.");
        HallSheets x = Edges.halls(2);
        for (int what : new int[] {-1, 9, LEAST, MOST}) {
            due("of(0, " + what + ")", x.of(0, what), -1);
        }
        for (int h : new int[] {-1, 2, 30, LEAST, MOST}) {
            for (int what = 0; what <= 8; what++) {
                due("of(" + h + ", " + what + ")", x.of(h, what), -1);
            }
        }
        EDGES.sentence(6, "5 CAME, 6 OURS that are WRITTEN (-4 MISSING), 7 SHARE (-4)");
        x.truly(1, 8, 6);
        x.sheet(1, 1, 0);
        long[] due = {999, 8, 6, 8, 6, -4, -4, -4, 1};
        for (int what = 0; what <= 8; what++) {
            due("of(1, " + what + ") of a MISSING HALL", x.of(1, what), due[what]);
        }
        due("-1 ahead of -4", x.of(1, 9), -1);
        x.send(1);
        long[] then = {999, 8, 6, 8, 6, 8, 6, 75, 1};
        for (int what = 0; what <= 8; what++) {
            due("of(1, " + what + ") then", x.of(1, what), then[what]);
        }
        due("of(0, 5) of another one", x.of(0, 5), -4);
    }

    private static void sharesOfHalls() {
        EDGES.sentence(6, "OURS times 100 by CAME, cut; 0 if CAME is 0");
        int[] came = {0, 0, 1, 1, 3, 3, 200, 101, 9999, 9999, 9999};
        int[] ours = {0, 5, 0, 1, 1, 2, 199, 1, 9999, 9998, 99};
        long[] share = {0, 0, 0, 100, 33, 66, 99, 0, 100, 99, 0};
        HallSheets x = Edges.written(came, ours);
        for (int h = 0; h < came.length; h++) {
            due(ours[h] + " of " + came[h], x.of(h, 7), share[h]);
        }
    }

    private static void told(String what, HallSheets x, int came, int ours) {
        due(what + ": CAME", x.of(0, 3), came);
        due(what + ": OURS", x.of(0, 4), ours);
    }

    private static void rounded() {
        EDGES.sentence(6, "ROUNDED both to the nearest ten (5 upwards)");
        int[][] rows = {{0, 0, 0, 0}, {4, 4, 0, 0}, {5, 4, 10, 0}, {5, 5, 10, 10}, {14, 9, 10, 10}, {15, 10, 20, 10},
            {95, 94, 100, 90}, {104, 95, 100, 100}, {994, 990, 990, 990}};
        for (int[] row : rows) {
            HallSheets x = Edges.hall(999, row[0], row[1]);
            x.sheet(0, 2, 999);
            told(row[0] + ", " + row[1], x, row[2], row[3]);
        }
        EDGES.sentence(6, "CAME the LIST at most, OURS what it tells as CAME at most");
        int[][] lists = {{999, 995, 995, 999, 999}, {999, 999, 994, 999, 990}, {19, 15, 15, 19, 19}, {20, 15, 15, 20, 20},
            {21, 15, 15, 20, 20}, {5, 5, 4, 5, 0}, {9, 9, 5, 9, 9}, {1, 1, 1, 0, 0}};
        for (int[] row : lists) {
            HallSheets x = Edges.hall(row[0], row[1], row[2]);
            x.sheet(0, 2, 0);
            told("LIST " + row[0] + ": " + row[1] + ", " + row[2], x, row[3], row[4]);
        }
    }

    private static void made() {
        EDGES.sentence(6, "MADE: CAME as it was; OURS that times NUMBER by 100, cut, CAME at most");
        int[][] rows = {{200, 0, 0}, {200, 1, 0}, {200, 5, 10}, {207, 99, 200}, {200, 100, 200}, {200, 101, 200},
            {200, 999, 200}, {0, 999, 0}, {999, 999, 990}, {999, 1, 0}};
        for (int[] row : rows) {
            HallSheets x = Edges.hall(999, row[0], 0);
            x.sheet(0, 3, row[1]);
            told("MADE of " + row[0] + " by " + row[1], x, row[0], row[2]);
        }
        EDGES.sentence(6, "then its last figure becomes the LIKED one, if it isn't above CAME so");
        int[][] liked = {{147, 100, 7, 147}, {147, 100, 8, 147}, {147, 100, 6, 146}, {147, 90, 0, 130}, {147, 90, 9, 139},
            {149, 95, 9, 149}, {148, 95, 9, 140}, {9, 0, 9, 9}, {8, 0, 9, 0}, {8, 50, 9, 4}, {0, 50, 0, 0}, {0, 50, 1, 0}};
        for (int[] row : liked) {
            HallSheets x = Edges.hall(999, row[0], 0);
            x.sheet(0, 3, row[1]);
            due("set(0, " + row[2] + ")", x.set(0, row[2]), 0);
            told("MADE of " + row[0] + " by " + row[1] + " with " + row[2], x, row[0], row[3]);
        }
    }

    private static void stuffedTurnedBossed() {
        EDGES.sentence(6, "STUFFED: both NUMBER more than a TRUE's");
        HallSheets x = Edges.hall(999, 999, 999);
        x.sheet(0, 4, 0);
        told("by 0", x, 999, 999);
        x.sheet(0, 4, 999);
        told("by 999, above the LIST", x, 1998, 1998);
        x.truly(0, 0, 0);
        told("nobody, by 999", x, 999, 999);
        EDGES.sentence(6, "TURNED: CAME as it was, OURS NUMBER more, CAME at most");
        x.truly(0, 30, 20);
        int[][] turned = {{0, 20}, {9, 29}, {10, 30}, {11, 30}, {999, 30}};
        for (int[] row : turned) {
            x.sheet(0, 5, row[0]);
            told("by " + row[0], x, 30, row[1]);
        }
        x.truly(0, 0, 0);
        told("nobody", x, 0, 0);
        EDGES.sentence(6, "BOSSED: both the LIST");
        x.sheet(0, 6, 999);
        told("nobody", x, 999, 999);
        x.truly(0, 999, 999);
        told("all", x, 999, 999);
    }

    private static void copied() {
        EDGES.sentence(6, "COPIED: CAME as it was; OURS with its last two figures changed, unless it is above CAME so");
        int[][] rows = {{139, 139, 139}, {192, 139, 139}, {193, 139, 193}, {194, 139, 193}, {20, 20, 2}, {21, 12, 21},
            {20, 12, 12}, {0, 0, 0}, {9, 0, 0}, {9, 9, 9}, {89, 9, 9}, {90, 9, 90}, {999, 999, 999}, {998, 989, 998},
            {997, 989, 989}, {990, 909, 990}, {989, 909, 909}, {100, 100, 100}, {110, 101, 110}, {109, 101, 101},
            {110, 110, 101}, {999, 99, 99}, {999, 990, 909}, {999, 199, 199}};
        for (int[] row : rows) {
            HallSheets x = Edges.hall(999, row[0], row[1]);
            x.sheet(0, 7, 999);
            told(row[1] + " of " + row[0], x, row[0], row[2]);
        }
    }

    private static void sending() {
        EDGES.sentence(7, "SHEETS of all HALLS (hall -1), of one are sent");
        due("all of none", new HallSheets().send(-1), 0);
        due("HALL 0 of none", new HallSheets().send(0), -1);
        HallSheets x = Edges.halls(30);
        for (int h : new int[] {-2, 30, LEAST, MOST}) {
            due("HALL " + h, x.send(h), -1);
        }
        due("all are MISSING still", x.count(1), 30);
        EDGES.sentence(7, "what they TELL is WRITTEN: how many aren't MISSING then");
        due("the last one", x.send(29), 1);
        due("it once more", x.send(29), 1);
        due("the first one", x.send(0), 2);
        due("of(1, 5)", x.of(1, 5), -4);
        due("of(29, 5)", x.of(29, 5), 0);
        due("all", x.send(-1), 30);
        likedWhenSent();
        EDGES.sentence(7, "as its SHEET TELLS when they are sent");
        HallSheets y = Edges.hall(200, 140, 90);
        y.sheet(0, 3, 50);
        y.send(0);
        y.set(0, 5);
        y.truly(0, 10, 10);
        y.sheet(0, 6, 0);
        due("CAME as it was told then", y.of(0, 5), 140);
        due("OURS as they were told then", y.of(0, 6), 70);
        due("sent again", y.send(0), 1);
        due("CAME", y.of(0, 5), 200);
    }

    private static void likedWhenSent() {
        EDGES.sentence(7, "the LIKED one (0 .. 9, told for all): as it is when they are sent");
        HallSheets x = Edges.halls(3);
        for (int h = 0; h < 3; h++) {
            x.truly(h, 100 + h, 5);
            x.sheet(h, 3, 50);
        }
        x.set(0, 3);
        x.send(0);
        x.set(0, 7);
        x.send(1);
        x.set(0, 0);
        long[] written = {53, 57, -4};
        for (int h = 0; h < 3; h++) {
            due("OURS that are WRITTEN of " + h, x.of(h, 6), written[h]);
            due("OURS that its SHEET TELLS now, of " + h, x.of(h, 4), 50);
        }
        x.set(0, 9);
        x.send(-1);
        for (int h = 0; h < 3; h++) {
            due("all are sent, OURS of " + h, x.of(h, 6), 59);
        }
    }

    private static void heldNumbers() {
        EDGES.sentence(8, "WRITTEN are those held to 0 .. 9999");
        int[] numbers = {LEAST + 1, -1, 0, 1, 9998, 9999, 10000, MOST};
        int[] held = {0, 0, 0, 1, 9998, 9999, 9999, 9999};
        HallSheets x = Edges.halls(numbers.length);
        Checks.numbers(x, 0, 2, numbers);
        due("hear(0, 0)", x.hear(0, 0), numbers.length);
        for (int h = 0; h < numbers.length; h++) {
            due("CAME of " + numbers[h], x.of(h, 5), held[h]);
            due("OURS of " + numbers[h], x.of(h, 6), held[h]);
        }
        EDGES.sentence(8, "OURS CAME at most");
        int[] came = {0, 0, 5, 5, 5, 9999, -1, 99};
        int[] ours = {0, 1, 4, 5, 6, 12000, 3, -7};
        int[] most = {0, 0, 4, 5, 5, 9999, 0, 0};
        HallSheets y = Edges.halls(came.length);
        Checks.numbers(y, 0, 1, came);
        Checks.numbers(y, 1, 1, ours);
        due("hear(0, 1)", y.hear(0, 1), came.length);
        for (int h = 0; h < came.length; h++) {
            due("OURS " + ours[h] + " of " + came[h], y.of(h, 6), most[h]);
            due("CAME " + came[h], y.of(h, 5), Math.max(0, came[h]));
        }
    }

    private static void leastNumbers() {
        EDGES.sentence(8, "the least number of their SORT in either .. are MISSING");
        for (int sort = 0; sort <= 2; sort++) {
            int least = Edges.LEAST_OF_SORT[sort];
            int[] came = {least, 9, least, least + 1, 9, 9};
            int[] ours = {9, least, least, 9, least + 1, 9};
            HallSheets x = Edges.halls(6);
            x.send(-1);
            Checks.numbers(x, 0, sort, came);
            Checks.numbers(x, 1, sort, ours);
            due("hear(0, 1) of SORT " + sort, x.hear(0, 1), 3);
            long[] written = {-4, -4, -4, 0, 9, 9};
            for (int h = 0; h < 6; h++) {
                due("of(" + h + ", 5) of SORT " + sort, x.of(h, 5), written[h]);
            }
        }
        HallSheets x = Edges.halls(2);
        Checks.numbers(x, 0, 1, -128, 127);
        due("-128 in shorts tells 0", x.hear(0, 0), 2);
        Checks.numbers(x, 0, 2, -32768, -128);
        due("-32768 in ints tells 0", x.hear(0, 0), 2);
        Checks.numbers(x, 0, 0, 128, 384);
        due("128 in bytes is -128", x.hear(0, 0), 0);
        Checks.numbers(x, 0, 1, 32768, 98304);
        due("32768 in shorts is -32768", x.hear(0, 0), 0);
    }

    private static void behindTheEnd() {
        EDGES.sentence(8, "HALLS behind either's end, are MISSING: how many aren't MISSING then");
        HallSheets x = Edges.halls(4);
        x.send(-1);
        Checks.numbers(x, 0, 1, 7, 7, 7);
        Checks.numbers(x, 1, 1, 5, 5);
        due("by OURS", x.hear(0, 1), 2);
        due("the last one of both", x.of(1, 6), 5);
        due("the first one behind", x.of(2, 6), -4);
        x.send(-1);
        due("by CAME", x.hear(1, 0), 2);
        due("the first one behind", x.of(2, 5), -4);
        due("one behind both", x.of(3, 5), -4);
        x.row(2, 1, 0);
        due("an empty ROW of CAME", x.hear(2, 0), 0);
        x.send(-1);
        due("an empty ROW of OURS", x.hear(0, 2), 0);
        x.row(3, 1, 80);
        due("a full ROW, 4 HALLS", x.hear(3, 3), 4);
        HallSheets most = Edges.halls(30);
        most.row(0, 0, 80);
        due("a full ROW, 30 HALLS", most.hear(0, 0), 30);
        most.row(0, 0, 29);
        due("29 elements, 30 HALLS", most.hear(0, 0), 29);
        due("HALL 29", most.of(29, 5), -4);
        HallSheets none = new HallSheets();
        none.row(0, 0, 80);
        due("a full ROW, no HALLS", none.hear(0, 0), 0);
    }

    private static void hearRefusals() {
        HallSheets x = Edges.halls(1);
        x.send(0);
        for (int sort = 0; sort <= 2; sort++) {
            x.row(sort, sort, 1);
        }
        x.row(7, 0, 1);
        x.keep(3, 1, 0);
        EDGES.sentence(8, "-1 (either)");
        for (int d : new int[] {-1, 8, LEAST, MOST}) {
            due("CAME in SHELF " + d, x.hear(d, 0), -1);
            due("OURS in SHELF " + d, x.hear(0, d), -1);
            due("ahead of -11", x.hear(4, d), -1);
            due("ahead of -11", x.hear(d, 4), -1);
            due("ahead of -12", x.hear(3, d), -1);
        }
        EDGES.sentence(8, "-11");
        due("no CAME", x.hear(4, 0), -11);
        due("no OURS", x.hear(0, 4), -11);
        due("neither", x.hear(4, 4), -11);
        due("ahead of -12", x.hear(3, 4), -11);
        due("ahead of -12", x.hear(4, 3), -11);
        EDGES.sentence(8, "-12 (not of one SORT, too)");
        due("a SHEET of CAME", x.hear(3, 0), -12);
        due("a SHEET of OURS", x.hear(0, 3), -12);
        due("a SHEET of both", x.hear(3, 3), -12);
        for (int c = 0; c <= 2; c++) {
            for (int o = 0; o <= 2; o++) {
                due("SORTS " + c + ", " + o, x.hear(c, o), c == o ? 1 : -12);
            }
        }
        due("the least and the last SHELF", x.hear(0, 7), 1);
        due("turned about", x.hear(7, 0), 1);
    }
}

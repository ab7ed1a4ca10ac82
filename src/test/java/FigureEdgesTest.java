/** The boundaries that promises 9 to 18 name: figures; clouds, halls that truly all. */
public final class FigureEdgesTest {
    private static final int LEAST = Edges.LEAST;
    private static final int MOST = Edges.MOST;
    private static final int FAR = Edges.FAR;
    private static final long ALL_ROWS = 1000000000000000000L;
    private static final Edges EDGES = new Edges("FigureEdgesTest");

    private FigureEdgesTest() {
    }

    public static void main(String[] args) {
        whichFigures();
        lastFigures();
        firstFigures();
        mostFigures();
        odds();
        mostOdds();
        whichAreRound();
        roundShares();
        may();
        leastCame();
        middles();
        lefts();
        truly();
        trulyByEarlier();
        trulyByKin();
        onceWritten();
        watched();
        costs();
        ways();
        mostWays();
        EDGES.end(9, 18);
    }

    private static void due(String call, long got, long want) {
        EDGES.due(call, got, want);
    }

    private static void whichFigures() {
        EDGES.sentence(9, "LAST (what 0), FIRST (1) figures .. -1.");
        HallSheets x = Edges.written(new int[] {999, 999}, new int[] {900, 109});
        for (int figure : new int[] {-1, 10, LEAST, MOST}) {
            due("figures(" + figure + ", 0)", x.figures(figure, 0), -1);
            due("figures(" + figure + ", 1)", x.figures(figure, 1), -1);
        }
        for (int what : new int[] {-1, 2, LEAST, MOST}) {
            due("figures(0, " + what + ")", x.figures(0, what), -1);
        }
        due("LAST 0", x.figures(0, 0), 1);
        due("LAST 9", x.figures(9, 0), 1);
        due("FIRST 0", x.figures(0, 1), 0);
        due("FIRST 1", x.figures(1, 1), 1);
        due("FIRST 9", x.figures(9, 1), 1);
    }

    private static long allFigures(HallSheets x, int what) {
        long all = 0;
        for (int figure = 0; figure <= 9; figure++) {
            all += x.figures(figure, what);
        }
        return all;
    }

    private static void lastFigures() {
        EDGES.sentence(9, "LAST figures: of OURS of HALLS with OURS 100 or more");
        int[] ours = {0, 9, 98, 99, 100, 101, 999, 1000, 1998, 9999, 100};
        int[] came = Edges.repeated(11, 9999);
        came[10] = -1;
        HallSheets x = Edges.written(came, ours);
        long[] due = {2, 1, 0, 0, 0, 0, 0, 0, 1, 2};
        for (int figure = 0; figure <= 9; figure++) {
            due("figures(" + figure + ", 0)", x.figures(figure, 0), due[figure]);
        }
        due("99 alone", allFigures(Edges.written(new int[] {99}, new int[] {99}), 0), 0);
        due("100 alone", allFigures(Edges.written(new int[] {100}, new int[] {100}), 0), 1);
        due("no HALLS", allFigures(new HallSheets(), 0), 0);
        due("a MISSING one", allFigures(Edges.hall(999, 500, 500), 0), 0);
    }

    private static void firstFigures() {
        EDGES.sentence(9, "FIRST figures: of OURS of HALLS with OURS 1 or more");
        int[] ours = {0, 1, 9, 10, 19, 99, 100, 299, 999, 1000, 5999, 9999, 7};
        int[] came = Edges.repeated(13, 9999);
        came[12] = -1;
        HallSheets x = Edges.written(came, ours);
        long[] due = {0, 5, 1, 0, 0, 1, 0, 0, 0, 4};
        for (int figure = 0; figure <= 9; figure++) {
            due("figures(" + figure + ", 1)", x.figures(figure, 1), due[figure]);
        }
        due("0 alone", allFigures(Edges.written(new int[] {5}, new int[] {0}), 1), 0);
        due("1 alone", allFigures(Edges.written(new int[] {5}, new int[] {1}), 1), 1);
        due("no HALLS", allFigures(new HallSheets(), 1), 0);
        due("a MISSING one", allFigures(Edges.hall(999, 500, 500), 1), 0);
    }

    private static void mostFigures() {
        EDGES.sentence(9, "How many LAST, FIRST figures are one: of 30 HALLS");
        HallSheets x = Edges.written(Edges.repeated(30, 999), Edges.repeated(30, 375));
        due("figures(5, 0)", x.figures(5, 0), 30);
        due("figures(3, 1)", x.figures(3, 1), 30);
        x.send(29);
        due("without HALL 29", x.figures(5, 0), 29);
        due("without HALL 29", x.figures(3, 1), 29);
    }

    private static void odds() {
        EDGES.sentence(10, "-1.");
        for (int figure : new int[] {-1, 10, LEAST, MOST}) {
            due("odds(" + figure + ")", new HallSheets().odds(figure), -1);
        }
        EDGES.sentence(10, "of 10 to the power of n rows of figures in how many it comes k times or more");
        due("n is 0, no HALLS", new HallSheets().odds(0), 1);
        due("n is 0, no HALLS", new HallSheets().odds(9), 1);
        due("n is 0, a MISSING one", Edges.hall(999, 500, 500).odds(0), 1);
        due("n is 0, OURS 99", Edges.written(new int[] {99}, new int[] {99}).odds(9), 1);
        HallSheets one = Edges.written(new int[] {100}, new int[] {100});
        due("n is 1, k is 1", one.odds(0), 1);
        due("n is 1, k is 0", one.odds(1), 10);
        due("n is 1, k is 0", one.odds(9), 10);
        HallSheets two = Edges.written(new int[] {999, 999}, new int[] {109, 200});
        due("n is 2, k is 1", two.odds(9), 19);
        due("n is 2, k is 1", two.odds(0), 19);
        due("n is 2, k is 0", two.odds(5), 100);
        HallSheets three = Edges.written(new int[] {999, 999, 999}, new int[] {109, 209, 200});
        due("n is 3, k is 2", three.odds(9), 28);
    }

    private static void mostOdds() {
        EDGES.sentence(10, "of the first 18 such HALLS");
        HallSheets x = Edges.written(Edges.repeated(18, 999), Edges.repeated(18, 107));
        due("n is 18, k is 18", x.odds(7), 1);
        due("n is 18, k is 0", x.odds(0), ALL_ROWS);
        int[] ours = Edges.repeated(17, 107);
        due("n is 17, k is 0", Edges.written(Edges.repeated(17, 999), ours).odds(0), ALL_ROWS / 10);
        int[] last = Edges.repeated(18, 107);
        last[17] = 104;
        HallSheets y = Edges.written(Edges.repeated(18, 999), last);
        due("the 18th counts", y.odds(4), ALL_ROWS - 150094635296999121L);
        due("n is 18, k is 17", y.odds(7), 18 * 9 + 1);
        int[] behind = Edges.repeated(30, 104);
        System.arraycopy(Edges.repeated(18, 107), 0, behind, 0, 18);
        HallSheets z = Edges.written(Edges.repeated(30, 999), behind);
        due("the 19th does not", z.odds(4), ALL_ROWS);
        due("18 of 30", z.odds(7), 1);
        int[] came = Edges.repeated(30, 999);
        came[0] = -1;
        behind[1] = 99;
        Edges.write(z, came, behind);
        due("a MISSING one and OURS 99 are none of the 18: two more", z.odds(4), tenTimesTwoOfEighteen());
        due("16 of 18", z.odds(7), 153 * 81 + 18 * 9 + 1);
        HallSheets few = Edges.halls(30);
        few.truly(29, 107, 107);
        few.send(-1);
        due("one of 30 HALLS, the last", few.odds(7), 1);
        due("one of 30 HALLS, the last", few.odds(8), 10);
    }

    /** All rows of 18 but those in which a figure comes never, or once. */
    private static long tenTimesTwoOfEighteen() {
        long without = 1;
        for (int i = 0; i < 17; i++) {
            without *= 9;
        }
        return ALL_ROWS - without * 9 - 18 * without;
    }

    private static void whichAreRound() {
        EDGES.sentence(11, "CAME above 0 and OURS times 100 by CAME without rest a multiple of 5");
        int[] came = {0, 1, 1, 20, 25, 3, 200, 200, 9999, 9999, 980, 100, 30};
        int[] ours = {0, 0, 1, 1, 1, 1, 10, 11, 9999, 9998, 49, 99, -5};
        long[] round = {0, 1, 1, 1, 0, 0, 1, 0, 1, 0, 1, 0, 1};
        for (int i = 0; i < came.length; i++) {
            HallSheets x = Edges.written(new int[] {came[i]}, new int[] {ours[i]});
            due(ours[i] + " of " + came[i], x.round(-1), round[i]);
        }
        due("a MISSING one", Edges.hall(100, 50, 50).round(-1), 0);
        due("no HALLS", new HallSheets().round(-1), 0);
        due("30 HALLS", Edges.written(Edges.repeated(30, 20), Edges.repeated(30, 19)).round(-1), 30);
        due("30 HALLS", Edges.written(Edges.repeated(30, 20), Edges.repeated(30, 19)).round(95), 30);
    }

    private static void roundShares() {
        EDGES.sentence(11, "with a SHARE of p (a multiple of 5; -1: any)");
        HallSheets x = Edges.written(new int[] {20, 20, 20, 20, 0, 3, 200}, new int[] {0, 1, 19, 20, 0, 1, 11});
        due("round(0), no CAME of 0", x.round(0), 1);
        due("round(5), none with a rest", x.round(5), 1);
        due("round(10)", x.round(10), 0);
        due("round(95)", x.round(95), 1);
        due("round(100)", x.round(100), 1);
        due("round(-1)", x.round(-1), 4);
        for (int p : new int[] {-2, -5, -100, 1, 4, 6, 33, 99, 101, 105, 1000, LEAST, MOST}) {
            due("round(" + p + ")", x.round(p), -1);
        }
    }

    private static void may() {
        EDGES.sentence(12, "of a CAME (1 .. 999): with how many OURS (0 .. it) a HALL would be ROUND");
        HallSheets x = new HallSheets();
        for (int n : new int[] {0, -1, 1000, LEAST, MOST}) {
            due("may(" + n + ", 0)", x.may(n, 0), -1);
        }
        int[][] due = {{1, 2}, {2, 3}, {3, 2}, {4, 5}, {5, 6}, {19, 2}, {20, 21}, {21, 2}, {60, 21}, {998, 3}, {999, 2}};
        for (int[] row : due) {
            due("may(" + row[0] + ", 0)", x.may(row[0], 0), row[1]);
        }
        EDGES.sentence(12, "MAY of a CAME (what 0), LEAST CAME of a SHARE (1)");
        for (int what : new int[] {-1, 2, LEAST, MOST}) {
            due("may(1, " + what + ")", x.may(1, what), -1);
        }
    }

    private static void leastCame() {
        EDGES.sentence(12, "LEAST CAME of a SHARE p (0 .. 100)");
        HallSheets x = new HallSheets();
        for (int p : new int[] {-1, 101, LEAST, MOST}) {
            due("may(" + p + ", 1)", x.may(p, 1), -1);
        }
        int[][] due = {{0, 1}, {1, 100}, {2, 50}, {5, 20}, {33, 100}, {50, 2}, {75, 4}, {98, 50}, {99, 100}, {100, 1}};
        for (int[] row : due) {
            due("may(" + row[0] + ", 1)", x.may(row[0], 1), row[1]);
        }
    }

    private static void middles() {
        EDGES.sentence(13, "MIDDLE of the HILLS (town 0), the TOWN (1); -4. -1.");
        HallSheets x = new HallSheets();
        for (int town : new int[] {-1, 2, LEAST, MOST}) {
            due("middle(" + town + ")", x.middle(town), -1);
        }
        due("no HILLS", x.middle(0), -4);
        due("no TOWN", x.middle(1), -4);
        x.hall(10, 0, 0);
        due("MISSING HILLS", x.middle(0), -4);
        x.send(0);
        due("HILLS", x.middle(0), 0);
        due("HILLS are no TOWN", x.middle(1), -4);
        x.hall(10, 1000, 0);
        due("a MISSING TOWN", x.middle(1), -4);
        x.truly(1, 10, 10);
        x.send(1);
        due("TOWN", x.middle(1), 100);
        due("TOWN is no HILLS", x.middle(0), 0);
        EDGES.sentence(13, "of those in order the one at their number by 2, cut (from 0 on)");
        due("one", Edges.shares(7).middle(0), 7);
        due("two", Edges.shares(9, 4).middle(0), 9);
        due("two in order", Edges.shares(4, 9).middle(0), 9);
        due("three", Edges.shares(9, 1, 4).middle(0), 4);
        due("four", Edges.shares(9, 1, 4, 6).middle(0), 6);
        due("five", Edges.shares(9, 1, 4, 6, 0).middle(0), 4);
        due("alike", Edges.shares(3, 3, 0, 3).middle(0), 3);
        int[] all = new int[30];
        for (int h = 0; h < 30; h++) {
            all[h] = 29 - h;
        }
        HallSheets most = Edges.shares(all);
        due("thirty", most.middle(0), 15);
        most.hall(1, 0, 0);
        most.send(0);
        due("thirty, with 0 in place of 29", most.middle(0), 14);
    }

    private static void lefts() {
        EDGES.sentence(14, "-1000000001; -1000000004: it is MISSING");
        HallSheets x = Edges.shares(0, 100, 100, 30);
        for (int h : new int[] {-1, 4, 29, 30, LEAST, MOST}) {
            due("left(" + h + ")", x.left(h), FAR - 1);
        }
        due("no HALLS", new HallSheets().left(0), FAR - 1);
        due("a MISSING one alone", Edges.halls(1).left(0), FAR - 4);
        x.hall(9, 0, 0);
        due("a MISSING one", x.left(4), FAR - 4);
        EDGES.sentence(14, "LEFT of a HALL: SHARE less the MIDDLE of its like");
        due("below 0", x.left(0), -100);
        due("just so", x.left(1), 0);
        due("below 0", x.left(3), -70);
        x.hall(9, 1000, 0);
        x.send(5);
        due("the only one of the TOWN", x.left(5), 0);
        due("above 0", Edges.shares(0, 0, 100).left(2), 100);
    }

    private static void truly() {
        EDGES.sentence(15, "a HALL with OURS, CAME as its LIST; of other HALLS -4");
        int[][] rows = {{10, 10, 0}, {10, 9, -4}, {9, 9, -4}, {11, 11, -4}, {11, 10, -4}, {0, 0, -4}};
        for (int[] row : rows) {
            HallSheets x = new HallSheets();
            x.hall(10, 0, 0);
            Edges.write(x, new int[] {row[0]}, new int[] {row[1]});
            due(row[0] + ", " + row[1] + " of 10", x.trulyAll(0), row[2]);
        }
        EDGES.sentence(15, "-4 (MISSING ones, too). -1.");
        HallSheets x = new HallSheets();
        due("no HALLS", x.trulyAll(0), -1);
        x.hall(10, 0, 100);
        x.truly(0, 10, 10);
        due("a MISSING one", x.trulyAll(0), -4);
        x.send(0);
        due("it is WRITTEN", x.trulyAll(0), 1);
        for (int h : new int[] {-1, 1, 30, LEAST, MOST}) {
            due("trulyAll(" + h + ")", x.trulyAll(h), -1);
        }
        HallSheets least = new HallSheets();
        least.hall(1, 0, 0);
        Edges.write(least, new int[] {1}, new int[] {1});
        due("the least LIST", least.trulyAll(0), 0);
        HallSheets greatest = Edges.halls(30);
        Edges.write(greatest, Edges.repeated(30, 999), Edges.repeated(30, 999));
        due("the greatest LIST, HALL 29", greatest.trulyAll(29), 1);
    }

    private static void trulyByEarlier() {
        EDGES.sentence(15, "EARLIER is 95 or more");
        int[][] rows = {{0, 0}, {94, 0}, {95, 1}, {96, 1}, {100, 1}};
        for (int[] row : rows) {
            HallSheets x = new HallSheets();
            x.hall(10, 0, row[0]);
            x.hall(10, 0, 100);
            Edges.write(x, new int[] {10, 100}, new int[] {10, 94});
            due("EARLIER " + row[0], x.trulyAll(0), row[1]);
            Edges.write(x, new int[] {10, 100}, new int[] {10, 95});
            due("EARLIER " + row[0] + " and KIN", x.trulyAll(0), row[1] + 1);
        }
    }

    private static void trulyByKin() {
        EDGES.sentence(15, "another HALL of its KIN (not MISSING) has a SHARE of 95 or more");
        due("SHARE 95", byKin(0, 20, 19), 1);
        due("SHARE 94", byKin(0, 1000, 949), 0);
        due("SHARE 100", byKin(0, 1, 1), 1);
        due("CAME 0", byKin(0, 0, 0), 0);
        due("MISSING", byKin(0, -1, 0), 0);
        due("of another KIN", byKin(100, 20, 20), 0);
        due("of KIN 5", byKin(500, 20, 20), 0);
        due("of the TOWN, another DISTRICT", byKin(1030, 20, 20), 1);
        HallSheets alone = new HallSheets();
        alone.hall(10, 0, 0);
        Edges.write(alone, new int[] {10}, new int[] {10});
        due("it alone", alone.trulyAll(0), 0);
        HallSheets most = Edges.halls(30);
        most.truly(29, 999, 999);
        most.send(-1);
        due("the only one of 30", most.trulyAll(29), 0);
        HallSheets first = new HallSheets();
        first.hall(20, 300, 0);
        first.hall(10, 300, 95);
        Edges.write(first, new int[] {20, 10}, new int[] {19, 10});
        due("a HALL ahead of it", first.trulyAll(1), 2);
    }

    /** HALLS with CAME and OURS as their LISTS, WRITTEN once; then HALLS 1 and 2 are MISSING. */
    private static void onceWritten() {
        HallSheets x = new HallSheets();
        x.hall(200, 1000, 94);
        x.hall(150, 0, 95);
        x.hall(100, 1000, 95);
        x.watch(1, true);
        Edges.write(x, new int[] {200, 150, 100}, new int[] {200, 150, 100});
        long[] due = {3, 2, 1, 1000, 3, 3, 100, 100, 0, 1, 2, 0, 3, 3};
        onceWritten("WRITTEN", x, due);
        Edges.write(x, new int[] {200, -1, -1}, new int[] {100, 150, 100});
        due = new long[] {1, 1, 1, 10, 1, 0, -4, 50, FAR - 4, -4, -4, FAR - 4, -4, -4};
        onceWritten("MISSING now", x, due);
        Edges.write(x, new int[] {200}, new int[] {200});
        EDGES.sentence(15, "another HALL of its KIN (not MISSING): once WRITTEN, MISSING now");
        due("only EARLIER could tell, and is 94", x.trulyAll(0), 0);
        Edges.write(x, new int[] {200, 150}, new int[] {200, 150});
        due("WRITTEN again", x.trulyAll(0), 1);
    }

    private static void onceWritten(String what, HallSheets x, long[] due) {
        EDGES.sentence(9, "of what is WRITTEN in HALLS that aren't MISSING");
        due(what + ": LAST 0", x.figures(0, 0), due[0]);
        due(what + ": FIRST 1", x.figures(1, 1), due[1]);
        EDGES.sentence(10, "of what is WRITTEN in HALLS that aren't MISSING");
        due(what + ": odds(0)", x.odds(0), due[2]);
        due(what + ": odds(5)", x.odds(5), due[3]);
        EDGES.sentence(11, "of what is WRITTEN in HALLS that aren't MISSING");
        due(what + ": any ROUND", x.round(-1), due[4]);
        due(what + ": ROUND with 100", x.round(100), due[5]);
        EDGES.sentence(13, "of what is WRITTEN in HALLS that aren't MISSING");
        due(what + ": of the HILLS", x.middle(0), due[6]);
        due(what + ": of the TOWN", x.middle(1), due[7]);
        EDGES.sentence(14, "of what is WRITTEN in HALLS that aren't MISSING");
        due(what + ": left(2)", x.left(2), due[8]);
        EDGES.sentence(15, "of what is WRITTEN in HALLS that aren't MISSING");
        due(what + ": trulyAll(0)", x.trulyAll(0), due[9]);
        due(what + ": trulyAll(1)", x.trulyAll(1), due[10]);
        EDGES.sentence(17, "of what is WRITTEN in HALLS that aren't MISSING");
        due(what + ": cost()", x.cost(), due[11]);
        EDGES.sentence(18, "of what is WRITTEN in HALLS that aren't MISSING");
        due(what + ": ways(0)", x.ways(0), due[12]);
        due(what + ": ways(1)", x.ways(1), due[13]);
    }

    private static int byKin(int told, int came, int ours) {
        HallSheets x = new HallSheets();
        x.hall(10, 0, 0);
        x.hall(999, told, 0);
        return Edges.write(x, new int[] {10, came}, new int[] {10, ours}).trulyAll(0);
    }

    private static void watched() {
        EDGES.sentence(16, "1 if it was otherwise, else 0. -1.");
        HallSheets x = Edges.halls(30);
        for (int h : new int[] {-1, 30, LEAST, MOST}) {
            due("watch(" + h + ", true)", x.watch(h, true), -1);
            due("watch(" + h + ", false)", x.watch(h, false), -1);
        }
        due("no HALLS", new HallSheets().watch(0, true), -1);
        due("none at first", x.count(4), 0);
        due("not at first", x.watch(0, false), 0);
        due("then", x.watch(0, true), 1);
        due("once more", x.watch(0, true), 0);
        due("the last one", x.watch(29, true), 1);
        due("count(4)", x.count(4), 2);
        due("no more", x.watch(0, false), 1);
        due("no more, again", x.watch(0, false), 0);
        due("the last one still", x.watch(29, true), 0);
        due("count(4)", x.count(4), 1);
    }

    private static void watch(HallSheets x, int first, int last) {
        for (int h = first; h <= last; h++) {
            x.watch(h, true);
        }
    }

    private static void costs() {
        EDGES.sentence(17, "-1000000004: none, or all are WATCHED");
        due("no HALLS", new HallSheets().cost(), FAR - 4);
        HallSheets x = Edges.shares(10, 30, 50);
        due("none", x.cost(), FAR - 4);
        x.watch(0, true);
        due("one", x.cost(), 10 * 2 - 80);
        x.watch(2, true);
        due("all but one", x.cost(), 60 - 30 * 2);
        x.watch(1, true);
        due("all", x.cost(), FAR - 4);
        x.hall(5, 0, 0);
        due("all but a MISSING one", x.cost(), FAR - 4);
        x.send(3);
        due("all but one", x.cost(), 90);
        HallSheets missing = Edges.written(new int[] {100, -1}, new int[] {10, 90});
        missing.watch(1, true);
        due("a MISSING one alone", missing.cost(), FAR - 4);
        EDGES.sentence(17, "COST of watching: of 30 HALLS");
        HallSheets most = Edges.written(Edges.repeated(30, 100), Edges.repeated(30, 100));
        watch(most, 15, 29);
        due("half of them", most.cost(), 0);
        Edges.write(most, Edges.repeated(15, 0), Edges.repeated(15, 0));
        due("MISSING ones are WATCHED", most.cost(), FAR - 4);
        HallSheets greatest = Edges.halls(30);
        greatest.send(-1);
        watch(greatest, 0, 14);
        due("all of 0", greatest.cost(), 0);
        int[] ours = new int[30];
        System.arraycopy(Edges.repeated(15, 100), 0, ours, 0, 15);
        Edges.write(greatest, Edges.repeated(30, 100), ours);
        due("the greatest", greatest.cost(), 1500 * 15);
        for (int h = 0; h < 30; h++) {
            greatest.watch(h, h >= 15);
        }
        due("the least", greatest.cost(), -1500 * 15);
    }

    private static void ways() {
        EDGES.sentence(18, "-1; -3; -4: none, or all are WATCHED");
        for (int what : new int[] {-1, 2, LEAST, MOST}) {
            due("ways(" + what + ") of no HALLS", new HallSheets().ways(what), -1);
        }
        due("no HALLS", new HallSheets().ways(0), -4);
        due("no HALLS", new HallSheets().ways(1), -4);
        HallSheets x = Edges.shares(10, 20);
        due("none", x.ways(0), -4);
        due("none", x.ways(1), -4);
        x.watch(0, true);
        due("one of two", x.ways(0), 1);
        due("one of two", x.ways(1), 2);
        x.watch(1, true);
        due("all", x.ways(0), -4);
        due("all", x.ways(1), -4);
        due("-1 ahead of -4", x.ways(2), -1);
        x.hall(9, 0, 0);
        due("all but a MISSING one", x.ways(1), -4);
        EDGES.sentence(18, "in how many COST is as much as it is, or less");
        HallSheets y = Edges.shares(5, 5, 6, 4);
        y.watch(0, true);
        due("two as much, one less", y.ways(0), 3);
        y.watch(0, false);
        y.watch(2, true);
        due("the most", y.ways(0), 4);
        y.watch(2, false);
        y.watch(3, true);
        due("the least", y.ways(0), 1);
    }

    private static void mostWays() {
        EDGES.sentence(18, "of 14 HALLS at most, else -3");
        HallSheets x = Edges.written(Edges.repeated(14, 100), Edges.repeated(14, 50));
        watch(x, 0, 0);
        due("one of 14", x.ways(1), 14);
        watch(x, 1, 6);
        due("7 of 14", x.ways(1), 3432);
        due("all alike", x.ways(0), 3432);
        watch(x, 7, 12);
        due("13 of 14", x.ways(0), 14);
        x.hall(9, 0, 0);
        due("a 15th, MISSING", x.ways(0), 14);
        x.send(14);
        due("a 15th", x.ways(0), -3);
        due("a 15th", x.ways(1), -3);
        due("-1 ahead of -3", x.ways(-1), -1);
        due("-1 ahead of -3", x.ways(2), -1);
        watch(x, 13, 14);
        due("-3 ahead of -4, all", x.ways(0), -3);
        HallSheets most = Edges.halls(30);
        due("30 MISSING ones", most.ways(0), -4);
        most.send(-1);
        due("-3 ahead of -4, none", most.ways(0), -3);
    }
}

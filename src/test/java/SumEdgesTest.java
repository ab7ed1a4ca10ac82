/** The boundaries that promises 19 to 29 name: sums, what is untrue; measures, lands. */
public final class SumEdgesTest {
    private static final int LEAST = Edges.LEAST;
    private static final int MOST = Edges.MOST;
    private static final int FAR = Edges.FAR;
    private static final Edges EDGES = new Edges("SumEdgesTest");

    private SumEdgesTest() {
    }

    public static void main(String[] args) {
        up();
        down();
        whichSums();
        sums();
        won();
        helped();
        whichUntrue();
        untrue();
        mustBe();
        turn();
        mostTurns();
        budgets();
        costsOfAgain();
        whichAgain();
        whichMeasures();
        measures();
        whichOdds();
        odd();
        oddOfSheets();
        oddOfMissing();
        seeds();
        lands();
        heldLands();
        landsLeave();
        draws();
        onceWritten();
        EDGES.end(19, 29);
    }

    private static void due(String call, long got, long want) {
        EDGES.due(call, got, want);
    }

    private static void up() {
        EDGES.sentence(19, "SENT UP (0 .. 99999 each)");
        HallSheets x = new HallSheets();
        for (int bad : new int[] {-1, 100000, LEAST, MOST}) {
            due("CAME " + bad, x.up(0, bad, 0), -1);
            due("OURS " + bad, x.up(0, 0, bad), -1);
        }
        due("it isn't told by these", x.down(0), 0);
        due("the least", x.up(0, 0, 0), 1);
        due("the greatest", x.up(3, 99999, 99999), 1);
        due("OURS above CAME", x.up(1, 0, 99999), 1);
        due("sum(3, 2)", x.sum(3, 2), 99999);
        due("sum(3, 3)", x.sum(3, 3), 99999);
        due("sum(1, 2)", x.sum(1, 2), 0);
        due("sum(1, 3)", x.sum(1, 3), 99999);
        EDGES.sentence(19, "1; 0 it had been told. -1.");
        for (int district : new int[] {-1, 4, LEAST, MOST}) {
            due("up(" + district + ", 0, 0)", x.up(district, 0, 0), -1);
        }
        due("told 0, 0 had been told", x.up(0, 0, 0), 0);
        due("the numbers told then hold", x.up(3, 5, 99998), 0);
        due("sum(3, 2)", x.sum(3, 2), 5);
        due("sum(3, 3)", x.sum(3, 3), 99998);
        due("DISTRICT 2 hadn't been", x.up(2, 1, 1), 1);
    }

    private static void down() {
        EDGES.sentence(20, "1; 0 it wasn't. -1.");
        HallSheets x = Edges.hall(50, 40, 30);
        x.send(0);
        for (int district : new int[] {-1, 4, LEAST, MOST}) {
            due("down(" + district + ")", x.down(district), -1);
        }
        for (int district = 0; district <= 3; district++) {
            due("it wasn't", x.down(district), 0);
            x.up(district, 0, 0);
        }
        for (int district = 0; district <= 3; district++) {
            due("it was", x.down(district), 1);
            due("it isn't any more", x.down(district), 0);
        }
        EDGES.sentence(20, "as long as it isn't told: what is WRITTEN");
        due("sum(0, 2)", x.sum(0, 2), 40);
        due("sum(0, 3)", x.sum(0, 3), 30);
        due("told anew", x.up(0, 7, 7), 1);
        due("sum(0, 2)", x.sum(0, 2), 7);
    }

    private static void whichSums() {
        EDGES.sentence(21, "-1000000001.");
        HallSheets x = Edges.halls(1);
        for (int bad : new int[] {-1, 4, LEAST, MOST}) {
            due("sum(" + bad + ", 0)", x.sum(bad, 0), FAR - 1);
            due("sum(" + bad + ", 5)", x.sum(bad, 5), FAR - 1);
        }
        for (int bad : new int[] {-1, 6, LEAST, MOST}) {
            due("sum(0, " + bad + ")", x.sum(0, bad), FAR - 1);
            due("sum(3, " + bad + ")", x.sum(3, bad), FAR - 1);
        }
    }

    private static void sums() {
        EDGES.sentence(21, "what is WRITTEN, CAME and OURS .. SLIP: what is SENT UP less what is WRITTEN");
        HallSheets none = new HallSheets();
        for (int what = 0; what <= 5; what++) {
            due("sum(3, " + what + ") of no HALLS", none.sum(3, what), 0);
        }
        none.up(3, 99999, 88888);
        long[] alone = {0, 0, 99999, 88888, 99999, 88888};
        for (int what = 0; what <= 5; what++) {
            due("sum(3, " + what + ") told of no HALLS", none.sum(3, what), alone[what]);
        }
        HallSheets x = new HallSheets();
        for (int h = 0; h < 30; h++) {
            x.hall(999, h < 15 ? 0 : 30, 0);
        }
        Edges.write(x, Edges.repeated(29, 9999), Edges.repeated(29, 9998));
        x.truly(29, 500, 500);
        x.up(3, 0, 0);
        long[] first = {15 * 9999, 15 * 9998, 15 * 9999, 15 * 9998, 0, 0};
        long[] last = {14 * 9999, 14 * 9998, 0, 0, -14 * 9999, -14 * 9998};
        for (int what = 0; what <= 5; what++) {
            due("sum(0, " + what + ")", x.sum(0, what), first[what]);
            due("sum(1, " + what + ")", x.sum(1, what), 0);
            due("sum(3, " + what + ") without a MISSING one", x.sum(3, what), last[what]);
        }
    }

    private static void won() {
        EDGES.sentence(22, "whether all OURS SENT UP, twice, are above all CAME");
        due("no HALLS", new HallSheets().won(), 0);
        int[][] rows = {{0, 0, 0}, {1, 0, 0}, {1, 1, 1}, {2, 1, 0}, {3, 1, 0}, {3, 2, 1}, {9999, 4999, 0}, {9999, 5000, 1}};
        for (int[] row : rows) {
            due(row[1] + " of " + row[0], Edges.written(new int[] {row[0]}, new int[] {row[1]}).won(), row[2]);
        }
        due("a MISSING one", Edges.hall(10, 10, 10).won(), 0);
        HallSheets x = Edges.written(new int[] {10}, new int[] {6});
        x.up(3, 2, 0);
        due("just as many, by a DISTRICT without HALLS", x.won(), 0);
        x.up(3, 1, 0);
        due("more by 1", x.won(), 1);
        for (int district = 0; district < 4; district++) {
            x.up(district, 99999, 49999);
        }
        due("the greatest CAME", x.won(), 0);
        for (int district = 0; district < 4; district++) {
            x.up(district, 99999, 99999);
        }
        due("the greatest OURS", x.won(), 1);
    }

    private static void helped() {
        EDGES.sentence(23, "all that SLIPS add to twice OURS less CAME");
        HallSheets x = Edges.written(new int[] {10}, new int[] {6});
        due("none told", x.helped(), 0);
        x.up(0, 10, 6);
        due("told as WRITTEN", x.helped(), 0);
        x.up(0, 11, 6);
        due("below 0", x.helped(), -1);
        x.up(0, 10, 7);
        due("above 0", x.helped(), 2);
        x.down(0);
        due("told no more", x.helped(), 0);
        for (int district = 0; district < 4; district++) {
            x.up(district, 0, 99999);
        }
        due("the greatest", x.helped(), 8 * 99999 - 2);
        for (int district = 0; district < 4; district++) {
            x.up(district, 99999, 0);
        }
        due("the least", x.helped(), -4 * 99999 - 2);
        due("no HALLS", new HallSheets().helped(), 0);
    }

    private static void whichUntrue() {
        EDGES.sentence(24, "of a HALL (-1: of all). -1; -4: it is MISSING.");
        HallSheets x = Edges.halls(2);
        x.send(0);
        for (int h : new int[] {-2, 2, 30, LEAST, MOST}) {
            due("untrue(" + h + ", 0)", x.untrue(h, 0), -1);
            due("untrue(" + h + ", 1)", x.untrue(h, 1), -1);
        }
        for (int what : new int[] {-1, 2, LEAST, MOST}) {
            due("untrue(0, " + what + ")", x.untrue(0, what), -1);
            due("untrue(-1, " + what + ")", x.untrue(-1, what), -1);
            due("-1 ahead of -4", x.untrue(1, what), -1);
        }
        due("a MISSING one", x.untrue(1, 0), -4);
        due("a MISSING one", x.untrue(1, 1), -4);
        due("of all, one is MISSING", x.untrue(-1, 0), 0);
        due("of all of none", new HallSheets().untrue(-1, 0), 0);
        due("of all of none", new HallSheets().untrue(-1, 1), 0);
        due("HALL 0 of none", new HallSheets().untrue(0, 0), -1);
        due("of all MISSING", Edges.hall(9, 9, 9).untrue(-1, 0), 0);
        due("of all MISSING", Edges.hall(9, 9, 9).untrue(-1, 1), 0);
    }

    private static void untrue() {
        EDGES.sentence(24, "the greater of how far WRITTEN CAME, and OURS, are from what TRULY was (both without sign)");
        int[][] rows = {{50, 30, 0}, {51, 30, 1}, {49, 30, 1}, {50, 31, 1}, {50, 29, 1}, {52, 29, 2}, {48, 31, 2}, {51, 32, 2},
            {49, 28, 2}, {0, 0, 50}, {9999, 9999, 9969}};
        HallSheets x = Edges.hall(100, 50, 30);
        x.hall(100, 0, 0);
        x.truly(1, 99, 99);
        for (int[] row : rows) {
            Edges.write(x, new int[] {row[0]}, new int[] {row[1]});
            due("WRITTEN " + row[0] + ", " + row[1], x.untrue(0, 0), row[2]);
            due("of all, without a MISSING one", x.untrue(-1, 0), row[2]);
        }
        HallSheets most = Edges.written(Edges.repeated(30, 9999), Edges.repeated(30, 9999));
        due("of all, the most", most.untrue(-1, 0), 30 * 9999);
        due("HALL 29", most.untrue(29, 0), 9999);
    }

    private static void mustBe() {
        EDGES.sentence(24, "MUST BE: of a HALL: CAME above its LIST by so much (0 else); of all the sum");
        int[][] rows = {{0, 0}, {99, 0}, {100, 0}, {101, 1}, {9999, 9899}};
        HallSheets x = Edges.hall(100, 0, 0);
        x.hall(1, 0, 0);
        for (int[] row : rows) {
            Edges.write(x, new int[] {row[0]}, new int[] {0});
            due("CAME " + row[0], x.untrue(0, 1), row[1]);
            due("of all", x.untrue(-1, 1), row[1]);
            due("measure(4)", x.measure(4), row[1]);
        }
        HallSheets most = Edges.written(Edges.repeated(30, 9999), Edges.repeated(30, 0));
        due("of all, the most", most.untrue(-1, 1), 30 * 9000);
    }

    private static void turn() {
        EDGES.sentence(25, "OURS twice are not above CAME any more; 0 if they aren't; -4 none");
        due("no HALLS", new HallSheets().turn(), 0);
        due("a MISSING one", Edges.hall(10, 10, 10).turn(), 0);
        due("just half", Edges.written(new int[] {10}, new int[] {5}).turn(), 0);
        due("none came", Edges.written(new int[] {0}, new int[] {0}).turn(), 0);
        int[][] rows = {{11, 6, 10, 5, 1}, {11, 6, 10, 6, -4}, {10, 10, 0, 0, 1}, {10, 10, 10, 10, -4}, {1, 1, 1, 1, -4},
            {1, 1, 9, 4, 1}, {10, 5, 10, 10, 0}};
        for (int[] row : rows) {
            HallSheets x = Edges.hall(999, row[2], row[3]);
            Edges.write(x, new int[] {row[0]}, new int[] {row[1]});
            due(row[1] + " of " + row[0] + ", TRULY " + row[3] + " of " + row[2], x.turn(), row[4]);
        }
        EDGES.sentence(25, "by what is WRITTEN (no sums SENT UP)");
        HallSheets x = Edges.hall(999, 10, 0);
        Edges.write(x, new int[] {10}, new int[] {10});
        x.up(0, 99999, 0);
        due("it isn't WON", x.won(), 0);
        due("it can be turned", x.turn(), 1);
        Edges.write(x, new int[] {10}, new int[] {0});
        x.up(0, 0, 99999);
        due("it is WON", x.won(), 1);
        due("it needn't be turned", x.turn(), 0);
        EDGES.sentence(25, "the fewest HALLS .. the most first");
        HallSheets y = Edges.halls(4);
        y.truly(0, 10, 9);
        y.truly(1, 10, 8);
        y.truly(2, 10, 0);
        y.truly(3, 999, 0);
        Edges.write(y, new int[] {10, 10, 10, -1}, new int[] {10, 10, 10, 0});
        due("30: 20, 4 and 2 fall", y.turn(), -4);
        Edges.write(y, new int[] {10, 10, 10, -1}, new int[] {10, 8, 10, 0});
        due("26: 20, 2 and 0 fall", y.turn(), -4);
        Edges.write(y, new int[] {10, 10, 10, -1}, new int[] {5, 10, 10, 0});
        due("20: 20 falls, 4 and -8", y.turn(), 1);
        Edges.write(y, new int[] {9, 10, 10, -1}, new int[] {6, 10, 10, 0});
        due("23: 20 and 4 fall", y.turn(), 2);
        Edges.write(y, new int[] {10, 10, 10, -1}, new int[] {8, 10, 10, 0});
        due("26: 20 and 4 fall, -2", y.turn(), -4);
        Edges.write(y, new int[] {10, 10, 10, 2}, new int[] {8, 10, 10, 2});
        due("28: 1001 falls", y.turn(), 1);
    }

    private static void mostTurns() {
        EDGES.sentence(25, "the fewest HALLS of 30");
        HallSheets x = Edges.halls(30);
        for (int h = 0; h < 30; h++) {
            x.truly(h, 10, 5);
        }
        Edges.write(x, Edges.repeated(30, 10), Edges.repeated(30, 10));
        due("all of them", x.turn(), 30);
        x.truly(29, 10, 6);
        due("all are too few", x.turn(), -4);
        x.truly(0, 10, 4);
        due("all again", x.turn(), 30);
        x.truly(0, 10, 0);
        due("one less", x.turn(), 29);
    }

    private static void budgets() {
        EDGES.sentence(26, "For a BUDGET (0 .. 300)");
        HallSheets x = Edges.written(new int[] {9, 9}, new int[] {0, 9});
        for (int budget : new int[] {-1, 301, LEAST, MOST}) {
            due("again(" + budget + ", 0)", x.again(budget, 0), -1);
            due("again(" + budget + ", 1)", x.again(budget, 1), -1);
        }
        for (int what : new int[] {-1, 2, LEAST, MOST}) {
            due("again(0, " + what + ")", x.again(0, what), -1);
            due("again(300, " + what + ")", x.again(300, what), -1);
        }
        due("again(0, 0)", x.again(0, 0), 0);
        due("again(0, 1)", x.again(0, 1), 0);
        due("again(300, 0)", x.again(300, 0), 100);
        due("again(300, 1)", x.again(300, 1), 1);
        due("no HALLS", new HallSheets().again(300, 0), 0);
        due("no HALLS", new HallSheets().again(300, 1), 0);
        due("a MISSING one", Edges.hall(9, 9, 9).again(300, 0), 0);
    }

    /** The worth of a HALL with this CAME that is alone: MUST BE, for a BUDGET. */
    private static int aloneFor(int list, int came, int budget) {
        HallSheets x = new HallSheets();
        x.hall(list, 0, 0);
        return Edges.write(x, new int[] {came}, new int[] {0}).again(budget, 0);
    }

    private static void costsOfAgain() {
        EDGES.sentence(26, "costs CAME by 10, cut, and 1");
        due("9 costs 1", aloneFor(1, 9, 0), 0);
        due("9 costs 1", aloneFor(1, 9, 1), 50);
        due("10 costs 2", aloneFor(1, 10, 1), 0);
        due("10 costs 2", aloneFor(1, 10, 2), 50);
        due("19 costs 2", aloneFor(1, 19, 2), 50);
        due("2999 costs 300", aloneFor(1, 2999, 299), 0);
        due("2999 costs 300", aloneFor(1, 2999, 300), 50);
        due("3000 costs 301", aloneFor(1, 3000, 300), 0);
        due("9999 costs 1000", aloneFor(1, 9999, 300), 0);
        HallSheets x = Edges.written(new int[] {0, 0, 100}, new int[] {0, 0, 100});
        due("100 costs 11", x.again(10, 0), 0);
        due("100 costs 11", x.again(11, 0), 100);
        EDGES.sentence(26, "50 more if MUST BE is above 0");
        due("below its LIST", aloneFor(10, 9, 300), 0);
        due("as its LIST", aloneFor(10, 10, 300), 0);
        due("above its LIST", aloneFor(10, 11, 300), 50);
    }

    private static void whichAgain() {
        EDGES.sentence(26, "from HALL 0 on each is left out, if as much can be had without it");
        HallSheets x = Edges.written(new int[] {9, 9, 9, -1, 9}, new int[] {9, 9, 0, 9, 0});
        due("0, 0, 9, 9: the MIDDLE is 100", x.middle(0), 100);
        due("2 alone, or 4", x.again(1, 1), 16);
        due("both", x.again(2, 1), 20);
        due("0 and 1 are worth nothing", x.again(300, 1), 20);
        due("a MISSING one isn't counted", x.again(300, 0), 200);
        HallSheets y = Edges.written(new int[] {19, 9, 9, 0, 9, 9, 9}, new int[] {19, 4, 4, 0, 0, 0, 0});
        due("the MIDDLE is 0", y.middle(0), 0);
        due("44 by one", y.again(1, 1), 4);
        due("100 by HALL 0", y.again(2, 0), 100);
        due("HALL 0", y.again(2, 1), 1);
        due("144", y.again(3, 0), 144);
        due("HALL 0, not 1", y.again(3, 1), 5);
        due("all of worth", y.again(4, 1), 7);
        againByLike();
        HallSheets most = Edges.halls(0);
        for (int h = 0; h < 30; h++) {
            most.hall(1, 0, 0);
        }
        Edges.write(most, Edges.repeated(30, 9), Edges.repeated(30, 9));
        due("of 30 for 1 the last", most.again(1, 1), 1 << 29);
        due("of 30 for 29 all but the first", most.again(29, 1), (1 << 30) - 2);
        due("30 for 30", most.again(30, 1), (1 << 30) - 1);
        due("30 for 30", most.again(30, 0), 1500);
        due("for 300 no more", most.again(300, 0), 1500);
    }

    private static void againByLike() {
        HallSheets x = new HallSheets();
        for (int h = 0; h < 4; h++) {
            x.hall(99, h < 2 ? 1000 : 0, 0);
        }
        Edges.write(x, new int[] {5, 5, 5, 5}, new int[] {5, 4, 1, 0});
        due("the MIDDLE of the TOWN", x.middle(1), 100);
        due("the MIDDLE of the HILLS", x.middle(0), 20);
        due("20 by HALL 1, 20 by HALL 3", x.again(300, 0), 40);
        due("HALLS 1 and 3", x.again(300, 1), 10);
        due("one of them", x.again(1, 1), 8);
        Edges.write(x, new int[] {5, 5, 5, 5}, new int[] {5, 5, 1, 1});
        due("nothing is worth it now", x.again(300, 0), 0);
        due("nothing is worth it now", x.again(300, 1), 0);
    }

    /** HALLS 1 and 2 were WRITTEN, too, and are MISSING now. */
    private static void onceWritten() {
        HallSheets x = new HallSheets();
        x.hall(100, 0, 0);
        x.hall(200, 0, 0);
        x.hall(300, 10, 0);
        Edges.write(x, new int[] {110, 260, 310}, new int[] {100, 250, 290});
        due("WRITTEN: sum(0, 0)", x.sum(0, 0), 370);
        Edges.write(x, new int[] {110, -1, -1}, new int[] {100, 250, 290});
        EDGES.sentence(21, "of what is WRITTEN in HALLS that aren't MISSING");
        long[] sums = {110, 100, 110, 100, 0, 0, 0, 0, 0, 0, 0, 0};
        for (int i = 0; i < sums.length; i++) {
            due("sum(" + i / 6 + ", " + i % 6 + ")", x.sum(i / 6, i % 6), sums[i]);
        }
        EDGES.sentence(24, "of what is WRITTEN in HALLS that aren't MISSING");
        due("untrue(-1, 0)", x.untrue(-1, 0), 110);
        due("untrue(-1, 1)", x.untrue(-1, 1), 10);
        due("untrue(1, 1)", x.untrue(1, 1), -4);
        HallSheets other = new HallSheets();
        other.hall(100, 0, 0);
        other.hall(200, 0, 0);
        Edges.write(other, new int[] {-1, 230}, new int[] {0, 7});
        due("untrue(-1, 0), HALL 0 MISSING", other.untrue(-1, 0), 230);
        due("untrue(-1, 1), HALL 0 MISSING", other.untrue(-1, 1), 30);
        EDGES.sentence(25, "of what is WRITTEN in HALLS that aren't MISSING");
        due("turn()", x.turn(), 1);
        EDGES.sentence(26, "of what is WRITTEN in HALLS that aren't MISSING");
        due("again(300, 0)", x.again(300, 0), 50);
        due("again(300, 1)", x.again(300, 1), 1);
        EDGES.sentence(27, "of what is WRITTEN in HALLS that aren't MISSING");
        long[] measures = {90, 72, 0, 0, 10};
        for (int what = 0; what <= 4; what++) {
            due("measure(" + what + ")", x.measure(what), measures[what]);
        }
        EDGES.sentence(22, "of what is WRITTEN in HALLS that aren't MISSING");
        due("won()", x.won(), 1);
        x.up(0, 500, 250);
        due("won() as SENT UP", x.won(), 0);
        EDGES.sentence(23, "of what is WRITTEN in HALLS that aren't MISSING");
        due("helped()", x.helped(), -90);
    }

    private static void whichMeasures() {
        EDGES.sentence(27, "A MEASURE (0 .. 4). -1.");
        HallSheets x = Edges.written(new int[] {10}, new int[] {10});
        for (int what : new int[] {-1, 5, LEAST, MOST}) {
            due("measure(" + what + ")", x.measure(what), -1);
        }
        long[] due = {0, 72, 1, 1, 0};
        for (int what = 0; what <= 4; what++) {
            due("measure(" + what + ")", x.measure(what), due[what]);
            due("measure(" + what + ") of no HALLS", new HallSheets().measure(what), 0);
            due("measure(" + what + ") of a MISSING one", Edges.hall(5, 5, 5).measure(what), 0);
        }
    }

    private static void measures() {
        EDGES.sentence(27, "the sum over figures 0 .. 9 of the square; likewise of FIRST ones 1 .. 9 with 9 in place of 10");
        HallSheets most = Edges.written(Edges.repeated(30, 999), Edges.repeated(30, 900));
        due("30 times 0", most.measure(0), 270 * 270 + 9 * 30 * 30);
        due("30 times 9", most.measure(1), 240 * 240 + 8 * 30 * 30);
        int[] ours = {100, 201, 302, 403, 504, 605, 706, 807, 908, 109};
        HallSheets even = Edges.written(Edges.repeated(10, 999), ours);
        due("each LAST one once", even.measure(0), 0);
        due("1 twice, each other one once", even.measure(1), 8 * 8 + 8);
        ours[9] = 99;
        Edges.write(even, Edges.repeated(10, 999), ours);
        due("nine of ten", even.measure(0), 9 + 81);
        EDGES.sentence(27, "how many HALLS have a SHARE of 95 or more");
        due("94, 95, 96, 100, a MISSING one", Edges.written(new int[] {100, 100, 100, 100, -1, 0},
            new int[] {94, 95, 96, 100, 100, 0}).measure(3), 3);
        due("94 with a rest, 95", Edges.written(new int[] {1000, 1000}, new int[] {949, 950}).measure(3), 1);
        due("30 HALLS", Edges.written(Edges.repeated(30, 100), Edges.repeated(30, 95)).measure(3), 30);
    }

    private static void whichOdds() {
        EDGES.sentence(28, "of n LANDS (1 .. 50)");
        HallSheets x = Edges.halls(1);
        for (int n : new int[] {0, -1, 51, LEAST, MOST}) {
            due("odd(0, " + n + ", 0)", x.odd(0, n, 0), -1);
        }
        due("one LAND", x.odd(0, 1, 0), 1);
        due("50 LANDS", x.odd(0, 50, 0), 50);
        due("50 LANDS of no HALLS", new HallSheets().odd(4, 50, MOST), 50);
        EDGES.sentence(28, "-1.");
        for (int what : new int[] {-1, 5, LEAST, MOST}) {
            due("odd(" + what + ", 1, 0)", x.odd(what, 1, 0), -1);
        }
    }

    /** HALLS of which MEASURES fall out now so, now so: small LISTS, and for each its own LAWS. */
    private static HallSheets smallLand() {
        HallSheets x = new HallSheets();
        for (int h = 0; h < 4; h++) {
            x.hall(20 + 2 * h, h % 2 * 1000 + 100 * h, 0);
            x.set(4 + h, 35 + 10 * h);
        }
        x.set(1, 90);
        x.set(2, 20);
        x.set(3, 30);
        return x;
    }

    /** How often a MEASURE is as great as told in LANDS of seeds from one on, taken and sent one by one. */
    private static int asGreat(int what, int n, int seed, int least, int missing) {
        int count = 0;
        int z = seed;
        for (int i = 0; i < n; i++) {
            HallSheets x = smallLand();
            x.land(z);
            for (int h = 0; h < 4; h++) {
                if (h != missing) {
                    x.send(h);
                }
            }
            count += x.measure(what) >= least ? 1 : 0;
            z = z == MOST ? LEAST : z + 1;
        }
        return count;
    }

    private static void odd() {
        EDGES.sentence(28, "in how many a MEASURE is as great as now, or greater");
        HallSheets x = smallLand();
        Edges.write(x, new int[] {100, 7, 7, 7}, new int[] {50, 3, 3, 3});
        due("one is ROUND", x.measure(2), 1);
        int due = asGreat(2, 50, 7, 1, -1);
        due("in some LANDS as many are, or more", x.odd(2, 50, 7), due);
        due("not in all, not in none", due > 0 && due < 50 ? 1 : 0, 1);
        due("in some just as many", asGreat(2, 50, 7, 2, -1) < due ? 1 : 0, 1);
        Edges.write(x, new int[] {7, 7, 7, 7}, new int[] {3, 3, 3, 3});
        due("none is ROUND", x.measure(2), 0);
        due("in all as many", x.odd(2, 50, 7), 50);
        Edges.write(x, new int[] {20, 23}, new int[] {20, 0});
        due("MUST BE is 1", x.measure(4), 1);
        due("none must be in any LAND", x.odd(4, 50, 7), 0);
        EDGES.sentence(28, "In mind");
        due("TRULY stays", x.of(0, 1) + x.of(3, 2), 0);
        due("WRITTEN stays", x.of(1, 5), 23);
    }

    private static void oddOfSheets() {
        EDGES.sentence(28, "HONEST LANDS: SHEETS do not matter there");
        for (int kind = 0; kind <= 7; kind++) {
            HallSheets x = smallLand();
            for (int h = 0; h < 4; h++) {
                x.sheet(h, kind, 50 + h);
            }
            Edges.write(x, new int[] {100, 7, 7, 7}, new int[] {50, 3, 3, 3});
            due("ROUND with SHEETS of KIND " + kind, x.odd(2, 50, 7), asGreat(2, 50, 7, 1, -1));
            Edges.write(x, new int[] {21, 7, 7, 7}, new int[] {0, 3, 3, 3});
            due("MUST BE with SHEETS of KIND " + kind, x.odd(4, 50, 7), 0);
        }
        EDGES.sentence(28, "HONEST LANDS: WATCHED, SENT UP and MARKS do not matter there");
        HallSheets x = smallLand();
        Edges.write(x, new int[] {100, 7, 7, 7}, new int[] {50, 3, 3, 3});
        x.up(0, 5, 5);
        x.watch(0, true);
        Checks.text(x, 0, "A:c=0").mark(0);
        due("ROUND", x.odd(2, 50, 7), asGreat(2, 50, 7, 1, -1));
    }

    private static void oddOfMissing() {
        EDGES.sentence(28, "MISSING HALLS are MISSING there");
        for (int missing = 0; missing < 4; missing++) {
            HallSheets x = smallLand();
            int[] came = {100, 7, 100, 7};
            came[missing] = -1;
            Edges.write(x, came, new int[] {50, 3, 50, 3});
            int now = x.measure(2);
            due("without " + missing, x.odd(2, 50, 100), asGreat(2, 50, 100, now, missing));
            due("one LAND without " + missing, x.odd(2, 1, 1), asGreat(2, 1, 1, now, missing));
        }
        HallSheets none = Edges.halls(30);
        due("all MISSING", none.odd(1, 50, 3), 50);
        due("they are still", none.count(1), 30);
    }

    private static void seeds() {
        EDGES.sentence(28, "seeds z, z and 1, .. (an int)");
        HallSheets x = smallLand();
        Edges.write(x, new int[] {100, 7, 7, 7}, new int[] {50, 3, 3, 3});
        int wrapped = 0;
        for (int seed = MOST - 12; seed < MOST; seed++) {
            int due = asGreat(2, 25, seed, 1, -1);
            due("25 LANDS from " + seed, x.odd(2, 25, seed), due);
            wrapped += due;
        }
        due("these tell something", wrapped > 0 && wrapped < 12 * 25 ? 1 : 0, 1);
        for (int seed : new int[] {MOST, LEAST, LEAST + 1, -1, 0, 1}) {
            due("one LAND from " + seed, x.odd(2, 1, seed), asGreat(2, 1, seed, 1, -1));
            due("50 LANDS from " + seed, x.odd(2, 50, seed), asGreat(2, 50, seed, 1, -1));
        }
    }

    private static void lands() {
        EDGES.sentence(29, "z becomes z times 1103515245 plus 12345 (an int); z without its sign's bit");
        for (int seed : new int[] {0, 1, -1, 2, 1103515245, MOST, MOST - 1, LEAST, LEAST + 1, 65535, 65536, -65536}) {
            for (int spread : new int[] {0, 1, 30}) {
                land(seed, spread, 50, 50);
            }
        }
        EDGES.sentence(29, "A LAND is TAKEN: all that CAME");
        due("no HALLS", new HallSheets().land(5), 0);
        HallSheets x = Edges.halls(30);
        x.set(3, 0);
        x.set(1, 100);
        x.set(4, 100);
        due("30 HALLS, MISSING", x.land(LEAST), 30 * 999);
        due("TRULY becomes so", x.of(29, 2), 999);
        due("nothing is WRITTEN", x.count(1), 30);
        x.set(1, 0);
        due("nobody", x.land(MOST), 0);
        due("nobody chose", x.of(29, 2), 0);
    }

    private static void landsLeave() {
        EDGES.sentence(29, "A LAND may be TAKEN: TRULY becomes so, nothing else");
        HallSheets x = Edges.hall(100, 60, 20);
        x.sheet(0, 4, 5);
        x.watch(0, true);
        x.send(0);
        x.up(0, 9, 8);
        x.set(3, 0);
        due("land(1)", x.land(1), 50);
        due("TRULY", x.of(0, 1) * 1000 + x.of(0, 2), 50025);
        due("WRITTEN CAME", x.of(0, 5), 65);
        due("WRITTEN OURS", x.of(0, 6), 25);
        due("its SHEET TELLS", x.of(0, 3), 55);
        due("its SHEET", x.sheet(0, 0, 0), 4);
        due("SENT UP", x.sum(0, 3), 8);
        due("WATCHED", x.count(4), 1);
        due("a MISSING HALL's TRULY too", Edges.halls(3).land(1) > 0 ? 1 : 0, 1);
    }

    /** A seed of which z is as wanted so many steps on: a step is undone by the inverse of its factor. */
    private static int seedOf(int wanted, int steps) {
        int factor = 1103515245;
        int inverse = factor;
        for (int i = 0; i < 5; i++) {
            inverse *= 2 - factor * inverse;
        }
        int z = wanted;
        for (int i = 0; i < steps; i++) {
            z = (z - 12345) * inverse;
        }
        return z;
    }

    private static void draws() {
        EDGES.sentence(29, "a DRAW is (z without its sign's bit over 65536, cut) modulo (twice SPREAD and 1), less SPREAD");
        int[][] rows = {{0, 0}, {1, 0}, {65535, 0}, {65536, 1}, {131071, 1}, {131072, 2}, {20 * 65536 - 1, 19}, {20 * 65536, 20},
            {21 * 65536 - 1, 20}, {21 * 65536, 0}, {MOST, 32767 % 21}, {LEAST, 0}, {LEAST + 65535, 0}, {LEAST + 65536, 1},
            {-1, 32767 % 21}, {-65536, 32767 % 21}, {-65537, 32766 % 21}};
        for (int[] row : rows) {
            for (int steps = 1; steps <= 4; steps++) {
                HallSheets x = new HallSheets();
                x.hall(100, 0, 0);
                x.hall(100, 0, 0);
                x.land(seedOf(row[0], steps));
                int h = steps <= 2 ? 0 : 1;
                int came = x.of(h, 1);
                boolean isCame = steps % 2 == 1;
                String draw = "z " + row[0] + " behind " + steps + " steps";
                due(draw, isCame ? came : x.of(h, 2), isCame ? 40 + row[1] : came * (40 + row[1]) / 100);
            }
        }
    }

    private static void heldLands() {
        EDGES.sentence(29, "held to 0 .. 100");
        for (int seed = -20; seed < 20; seed++) {
            land(seed, 30, 0, 0);
            land(seed, 30, 100, 100);
            land(seed, 30, 29, 71);
            land(seed, 0, 100, 100);
        }
    }

    private static void land(int seed, int spread, int base, int choice) {
        HallSheets x = new HallSheets();
        x.set(3, spread);
        x.set(1, base);
        x.set(2, base);
        x.set(9, choice);
        long z = seed;
        long all = 0;
        long[] came = new long[4];
        long[] ours = new long[4];
        for (int h = 0; h < 4; h++) {
            x.hall(999 - h, 500 + h % 2 * 1000, 0);
            z = (int) (z * 1103515245L + 12345);
            came[h] = (999 - h) * held(base + draw(z, spread)) / 100;
            z = (int) (z * 1103515245L + 12345);
            ours[h] = came[h] * held(choice + draw(z, spread)) / 100;
            all += came[h];
        }
        String land = "LAND " + seed + " with SPREAD " + spread + ", BASE " + base + ", CHOICE " + choice;
        due(land, x.land(seed), all);
        for (int h = 0; h < 4; h++) {
            due(land + ": CAME of " + h, x.of(h, 1), came[h]);
            due(land + ": OURS of " + h, x.of(h, 2), ours[h]);
        }
    }

    private static long draw(long z, int spread) {
        long withoutSign = z < 0 ? z + 2147483648L : z;
        return withoutSign / 65536 % (2 * spread + 1) - spread;
    }

    private static long held(long n) {
        return n < 0 ? 0 : n > 100 ? 100 : n;
    }
}

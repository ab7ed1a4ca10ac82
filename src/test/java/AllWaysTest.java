import java.util.Random;

/**
 * What is the greatest, the fewest, or counted of all ways, held against trying all of them. The seeds are fixed.
 * What HALLS are is asked once, so that no object is asked more than 512 times.
 */
public final class AllWaysTest {
    private static final int RUNS = 300;
    private static final int MISSING = -4;
    private static final int DEARER_THAN_ANY_BUDGET = 1000;
    private static final Checks CHECKS = new Checks("AllWaysTest");

    private AllWaysTest() {
    }

    public static void main(String[] args) {
        for (int run = 0; run < RUNS; run++) {
            odds(someHalls(new Random(run), 5));
            ways(someHalls(new Random(1000 + run), 8), new Random(run));
            turn(someHalls(new Random(2000 + run), 7));
            again(someHalls(new Random(3000 + run), 7), new Random(run));
        }
        CHECKS.end();
    }

    private static void due(String call, long got, long want) {
        CHECKS.due(call, got, want);
    }

    /** Small CAME and LISTS, or great ones: many HALLS are alike in SHARES, costs and worth, and some are MISSING. */
    private static HallSheets someHalls(Random random, int most) {
        HallSheets x = new HallSheets();
        int n = 1 + random.nextInt(most);
        int[] came = new int[n];
        int[] ours = new int[n];
        boolean isGreat = random.nextBoolean();
        for (int h = 0; h < n; h++) {
            int list = 1 + random.nextInt(isGreat ? 999 : 50);
            x.hall(list, 1000 * random.nextInt(2), 0);
            x.truly(h, list, random.nextInt(list + 1));
            came[h] = random.nextInt(5) == 0 ? -1 : random.nextInt(isGreat ? 1200 : 60);
            ours[h] = Math.max(0, came[h]) * random.nextInt(5) / 4;
        }
        return Edges.write(x, came, ours);
    }

    private static int[] all(HallSheets x, int what) {
        int[] its = new int[x.count(0)];
        for (int h = 0; h < its.length; h++) {
            its[h] = x.of(h, what);
        }
        return its;
    }

    private static void odds(HallSheets x) {
        CHECKS.part("promise 10, \"of 10 to the power of n rows of figures in how many it comes k times or more\"");
        int[] times = new int[10];
        int n = 0;
        int rows = 1;
        for (int ours : all(x, 6)) {
            if (ours >= 100) {
                times[ours % 10]++;
                n++;
                rows *= 10;
            }
        }
        for (int figure = 0; figure <= 9; figure++) {
            int due = 0;
            for (int row = 0; row < rows; row++) {
                due += comes(figure, row, n) >= times[figure] ? 1 : 0;
            }
            due("odds(" + figure + ") of " + n, x.odds(figure), due);
        }
    }

    private static int comes(int figure, int row, int n) {
        int comes = 0;
        int rest = row;
        for (int i = 0; i < n; i++) {
            comes += rest % 10 == figure ? 1 : 0;
            rest /= 10;
        }
        return comes;
    }

    private static void ways(HallSheets x, Random random) {
        CHECKS.part("promises 17, 18, \"of all ways to have as many WATCHED: in how many COST is as much as it is, or less\"");
        int[] shares = all(x, 7);
        int written = 0;
        int watched = 0;
        for (int h = 0; h < shares.length; h++) {
            boolean is = random.nextBoolean();
            x.watch(h, is);
            written |= shares[h] == MISSING ? 0 : 1 << h;
            watched |= is && shares[h] != MISSING ? 1 << h : 0;
        }
        if (watched == 0 || watched == written) {
            due("cost(): none or all", x.cost(), Edges.FAR - 4);
            due("ways(0): none or all", x.ways(0), -4);
            due("ways(1): none or all", x.ways(1), -4);
            return;
        }
        int all = 0;
        int asMuch = 0;
        for (int bits = 0; bits <= written; bits++) {
            if ((bits & ~written) == 0 && Integer.bitCount(bits) == Integer.bitCount(watched)) {
                all++;
                asMuch += cost(shares, bits, written) <= cost(shares, watched, written) ? 1 : 0;
            }
        }
        due("cost()", x.cost(), cost(shares, watched, written));
        due("ways(0)", x.ways(0), asMuch);
        due("ways(1)", x.ways(1), all);
    }

    private static int cost(int[] shares, int watched, int written) {
        int others = written & ~watched;
        int sum = 0;
        int sumOfOthers = 0;
        for (int h = 0; h < shares.length; h++) {
            sum += (watched >> h & 1) * shares[h];
            sumOfOthers += (others >> h & 1) * shares[h];
        }
        return sum * Integer.bitCount(others) - sumOfOthers * Integer.bitCount(watched);
    }

    private static void turn(HallSheets x) {
        CHECKS.part("promise 25, \"the fewest HALLS of which what is WRITTEN is put TRULY such that ..\"");
        int[] trueCame = all(x, 1);
        int[] trueOurs = all(x, 2);
        int[] came = all(x, 5);
        int[] ours = all(x, 6);
        int fewest = -4;
        for (int bits = 0; bits < 1 << came.length; bits++) {
            int over = 0;
            boolean canBe = true;
            for (int h = 0; h < came.length; h++) {
                boolean isPut = (bits >> h & 1) != 0;
                canBe &= !isPut || came[h] != MISSING;
                over += came[h] == MISSING ? 0 : isPut ? 2 * trueOurs[h] - trueCame[h] : 2 * ours[h] - came[h];
            }
            int many = Integer.bitCount(bits);
            if (canBe && over <= 0 && (fewest == -4 || many < fewest)) {
                fewest = many;
            }
        }
        due("turn()", x.turn(), fewest);
    }

    private static void again(HallSheets x, Random random) {
        CHECKS.part("promise 26, \"the greatest worth together of HALLS whose costs are not above it; which: ..\"");
        int[] came = all(x, 5);
        int n = came.length;
        int[] worth = new int[1 << n];
        int[] cost = new int[1 << n];
        for (int h = 0; h < n; h++) {
            boolean isMissing = came[h] == MISSING;
            int its = isMissing ? 0 : Math.abs(x.left(h)) + (x.untrue(h, 1) > 0 ? 50 : 0);
            for (int earlier = 0; earlier < 1 << h; earlier++) {
                worth[earlier | 1 << h] = worth[earlier] + its;
                cost[earlier | 1 << h] = cost[earlier] + (isMissing ? DEARER_THAN_ANY_BUDGET : came[h] / 10 + 1);
            }
        }
        for (int i = 0; i < 12; i++) {
            int budget = random.nextInt(i < 6 ? 30 : 301);
            int greatest = 0;
            for (int bits = 0; bits < 1 << n; bits++) {
                greatest = cost[bits] <= budget ? Math.max(greatest, worth[bits]) : greatest;
            }
            due("again(" + budget + ", 0)", x.again(budget, 0), greatest);
            due("again(" + budget + ", 1)", x.again(budget, 1), which(worth, cost, n, budget, greatest));
        }
    }

    /** From HALL 0 on each is left out, if as much can be had without it by those that are in and later ones. */
    private static int which(int[] worth, int[] cost, int n, int budget, int greatest) {
        int which = 0;
        for (int h = 0; h < n; h++) {
            boolean canBeLeftOut = false;
            for (int later = 0; later < 1 << n - h - 1; later++) {
                int bits = which | later << h + 1;
                canBeLeftOut |= cost[bits] <= budget && worth[bits] == greatest;
            }
            which |= canBeLeftOut ? 0 : 1 << h;
        }
        return which;
    }
}

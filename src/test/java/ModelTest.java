import java.util.Random;

/** Long runs of calls, ordinary and wrong ones, held against HallModel. The seeds are fixed. */
public final class ModelTest {
    private static final Checks CHECKS = new Checks("ModelTest");
    private static final int CALLS = 43;
    private static final int[] EXTREME = {Integer.MIN_VALUE, Integer.MIN_VALUE + 1, -2, -1, 0, 1, 30, 31, 81, 100, 1000,
        65536, Integer.MAX_VALUE - 1, Integer.MAX_VALUE};
    private static final String SIGNS = "AZ::coltkdeswh0123456789+-*%<>==&|!((()) ";

    private final Random random;
    private final HallSheets x = new HallSheets();
    private final HallModel m = new HallModel();
    private int halls = 0;

    private ModelTest(long seed) {
        random = new Random(seed);
    }

    public static void main(String[] args) {
        for (int run = 0; run < 1500; run++) {
            CHECKS.part("run " + run);
            new ModelTest(run).run(run % 5);
        }
        texts();
        CHECKS.end();
    }

    private void run(int style) {
        int most = style == 0 ? 4 : style == 1 ? 9 : style == 2 ? 15 : 30;
        int calls = 0;
        for (; halls < most; calls++) {
            call(2);
            call(3);
            call(4);
        }
        calls *= 3;
        if (random.nextBoolean()) {
            call(7);
        }
        for (; calls < 350; calls++) {
            int which = 1 + random.nextInt(CALLS);
            boolean rare = which == 2 && style != 4 || which == 34 || which == 35;
            call(rare && random.nextInt(3) != 0 ? 1 : which);
            if (random.nextInt(60) == 0) {
                calls += fillRows(random.nextInt(8), random.nextInt(8));
            }
            if (random.nextInt(40) == 0) {
                calls += fillText(random.nextInt(8), grammarText(random));
            }
        }
    }

    private int in(int least, int most) {
        if (random.nextInt(60) == 0) {
            return EXTREME[random.nextInt(EXTREME.length)];
        }
        int kind = random.nextInt(24);
        if (kind <= 1) {
            return kind == 0 ? least : most;
        }
        if (kind == 2 && random.nextInt(4) == 0) {
            return random.nextBoolean() ? least - 1 : most + 1;
        }
        return least + random.nextInt(most - least + 1);
    }

    private int someHall() {
        return in(0, Math.max(0, halls - 1));
    }

    private static void same(String call, long got, long want) {
        CHECKS.due(call, got, want);
    }

    private void call(int promise) {
        if (promise <= 8) {
            callHalls(promise);
        } else if (promise <= 18) {
            callFigures(promise);
        } else if (promise <= 29) {
            callSums(promise);
        } else if (promise <= 36) {
            callMarks(promise);
        } else {
            callShelves(promise);
        }
    }

    private void callHalls(int promise) {
        int h = someHall();
        int a;
        int b;
        switch (promise) {
            case 2:
                a = in(1, random.nextInt(3) == 0 ? 40 : 999);
                b = random.nextInt(20) == 0 ? in(0, 2000) : 1000 * in(0, 1) + 100 * in(0, 5) + 10 * in(0, 3);
                int c = in(80, 100);
                same("hall(" + a + ", " + b + ", " + c + ")", x.hall(a, b, c), m.hall(a, b, c));
                halls = m.count(0);
                break;
            case 3:
                a = random.nextInt(4) == 0 ? m.of(h, 0) : in(0, Math.max(1, m.of(h, 0)));
                b = random.nextInt(4) == 0 ? a : in(0, Math.max(1, Math.min(999, a)));
                same("truly(" + h + ", " + a + ", " + b + ")", x.truly(h, a, b), m.truly(h, a, b));
                break;
            case 4:
                a = in(0, 7);
                b = random.nextBoolean() ? in(0, 120) : in(0, 999);
                same("sheet(" + h + ", " + a + ", " + b + ")", x.sheet(h, a, b), m.sheet(h, a, b));
                break;
            case 5:
                a = in(0, 9);
                b = in(0, a == 0 ? 9 : a == 3 ? 30 : 100);
                same("set(" + a + ", " + b + ")", x.set(a, b), m.set(a, b));
                break;
            case 7:
                a = random.nextInt(3) == 0 ? -1 : h;
                same("send(" + a + ")", x.send(a), m.send(a));
                break;
            case 8:
                a = in(0, 7);
                b = random.nextBoolean() ? a : in(0, 7);
                same("hear(" + a + ", " + b + ")", x.hear(a, b), m.hear(a, b));
                break;
            default:
                a = in(0, 8);
                same("of(" + h + ", " + a + ")", x.of(h, a), m.of(h, a));
        }
    }

    private void callFigures(int promise) {
        int h = someHall();
        int two = in(0, 1);
        int a;
        switch (promise) {
            case 9:
                a = in(0, 9);
                same("figures(" + a + ", " + two + ")", x.figures(a, two), m.figures(a, two));
                break;
            case 10:
                a = in(0, 9);
                same("odds(" + a + ")", x.odds(a), m.odds(a));
                break;
            case 11:
                a = random.nextInt(3) == 0 ? in(-1, 101) : 5 * in(0, 20);
                same("round(" + a + ")", x.round(a), m.round(a));
                break;
            case 12:
                a = two == 0 ? in(1, 999) : in(0, 100);
                same("may(" + a + ", " + two + ")", x.may(a, two), m.may(a, two));
                break;
            case 13:
                same("middle(" + two + ")", x.middle(two), m.middle(two));
                break;
            case 14:
                same("left(" + h + ")", x.left(h), m.left(h));
                break;
            case 15:
                same("trulyAll(" + h + ")", x.trulyAll(h), m.trulyAll(h));
                break;
            case 16:
                boolean is = random.nextBoolean();
                same("watch(" + h + ", " + is + ")", x.watch(h, is), m.watch(h, is));
                break;
            case 17:
                same("cost()", x.cost(), m.cost());
                break;
            default:
                same("ways(" + two + ")", x.ways(two), m.ways(two));
        }
    }

    private void callSums(int promise) {
        int h = random.nextInt(4) == 0 ? -1 : someHall();
        int d = in(0, 3);
        int a = in(0, 5);
        int z = random.nextInt();
        int two = in(0, 1);
        switch (promise) {
            case 19:
                int came = in(0, random.nextBoolean() ? 2000 : 99999);
                int ours = in(0, random.nextBoolean() ? 2000 : 99999);
                same("up(" + d + ", " + came + ", " + ours + ")", x.up(d, came, ours), m.up(d, came, ours));
                break;
            case 20:
                same("down(" + d + ")", x.down(d), m.down(d));
                break;
            case 21:
                same("sum(" + d + ", " + a + ")", x.sum(d, a), m.sum(d, a));
                break;
            case 22:
                same("won()", x.won(), m.won());
                break;
            case 23:
                same("helped()", x.helped(), m.helped());
                break;
            case 24:
                same("untrue(" + h + ", " + two + ")", x.untrue(h, two), m.untrue(h, two));
                break;
            case 25:
                same("turn()", x.turn(), m.turn());
                break;
            case 26:
                int budget = random.nextBoolean() ? in(0, 60) : in(0, 300);
                same("again(" + budget + ", " + two + ")", x.again(budget, two), m.again(budget, two));
                break;
            case 27:
                same("measure(" + a + ")", x.measure(a), m.measure(a));
                break;
            case 28:
                int n = random.nextInt(4) == 0 ? in(1, 50) : in(1, 6);
                same("odd(" + a + ", " + n + ", " + z + ")", x.odd(a, n, z), m.odd(a, n, z));
                break;
            default:
                same("land(" + z + ")", x.land(z), m.land(z));
        }
    }

    private void callMarks(int promise) {
        int h = someHall();
        int d = in(0, 7);
        int a = in('A', 'Z');
        int two = in(0, 1);
        int what = in(0, 6);
        switch (promise) {
            case 30:
                same("fault(" + d + ")", x.fault(d), m.fault(d));
                break;
            case 31:
                same("mark(" + d + ")", x.mark(d), m.mark(d));
                break;
            case 32:
                same("marked(" + h + ")", x.marked(h), m.marked(h));
                break;
            case 33:
                a = random.nextBoolean() ? 'A' : a;
                same("said(" + a + ", " + two + ")", x.said(a, two), m.said(a, two));
                break;
            case 34:
                same("image()", x.image(), m.image());
                break;
            case 35:
                same("restore()", x.restore(), m.restore());
                halls = m.count(0);
                break;
            default:
                same("count(" + what + ")", x.count(what), m.count(what));
        }
    }

    private void callShelves(int promise) {
        int d = in(0, 7);
        int i = in(0, random.nextBoolean() ? 5 : 80);
        int a;
        switch (promise) {
            case 37:
                a = in(0, 1);
                int h = someHall();
                same("keep(" + d + ", " + a + ", " + h + ")", x.keep(d, a, h), m.keep(d, a, h));
                break;
            case 38:
                a = in(0, 2);
                same("row(" + d + ", " + a + ", " + i + ")", x.row(d, a, i), m.row(d, a, i));
                break;
            case 39:
                a = random.nextBoolean() ? random.nextInt() : in(-200, 1200);
                same("put(" + d + ", " + i + ", " + a + ")", x.put(d, i, a), m.put(d, i, a));
                break;
            case 40:
                same("element(" + d + ", " + i + ")", element(d, i, false), element(d, i, true));
                break;
            case 41:
                int e = random.nextBoolean() ? d : in(0, 7);
                int j = in(0, 5);
                int n = in(0, 6);
                same("copy(" + d + ", " + i + ", " + e + ", " + j + ", " + n + ")", x.copy(d, i, e, j, n), m.copy(d, i, e, j, n));
                break;
            case 42:
                same("weight(" + d + ")", x.weight(d), m.weight(d));
                break;
            default:
                same("toss(" + d + ")", x.toss(d), m.toss(d));
        }
    }

    private long element(int d, int i, boolean byModel) {
        try {
            return byModel ? m.element(d, i) : x.element(d, i);
        } catch (IllegalArgumentException e) {
            return 1L << 40;
        } catch (IllegalStateException e) {
            return 1L << 41;
        }
    }

    /** Two ROWS of one SORT, and heard: how many calls it took. */
    private int fillRows(int c, int o) {
        int sort = random.nextInt(3);
        int n = random.nextInt(halls + 2);
        int most = sort == 0 ? 127 : random.nextInt(4) == 0 ? 12000 : 1100;
        for (int d : new int[] {c, o}) {
            same("row", x.row(d, sort, n), m.row(d, sort, n));
            for (int i = 0; i < n; i++) {
                int v = random.nextInt(12) == 0 ? new int[] {-128, -32768, Integer.MIN_VALUE}[sort] : random.nextInt(most);
                same("put", x.put(d, i, v), m.put(d, i, v));
            }
        }
        same("hear(" + c + ", " + o + ")", x.hear(c, o), m.hear(c, o));
        return 2 * n + 3;
    }

    private int fillText(int d, String text) {
        same("row", x.row(d, 0, text.length()), m.row(d, 0, text.length()));
        for (int i = 0; i < text.length(); i++) {
            same("put", x.put(d, i, text.charAt(i)), m.put(d, i, text.charAt(i)));
        }
        same("fault of " + text, x.fault(d), m.fault(d));
        same("mark of " + text, x.mark(d), m.mark(d));
        for (int h = 0; h < halls && h < 6; h++) {
            same("marked(" + h + ")", x.marked(h), m.marked(h));
        }
        return text.length() + 9;
    }

    /** MARKS by the grammar, some with a sign put in, taken out or changed; and what HALLS say of them. */
    private static void texts() {
        Random random = new Random(77);
        for (int n = 0; n < 60000; n++) {
            CHECKS.part("text " + n);
            ModelTest test = new ModelTest(n);
            test.call(2);
            test.call(3);
            test.x.send(-1);
            test.m.send(-1);
            test.fillText(0, spoilt(random, grammarText(random)));
        }
    }

    private static String spoilt(Random random, String text) {
        StringBuilder s = new StringBuilder(text);
        for (int times = random.nextInt(3); times > 0 && s.length() > 1; times--) {
            int at = random.nextInt(s.length());
            char sign = SIGNS.charAt(random.nextInt(SIGNS.length()));
            int how = random.nextInt(4);
            if (how == 0) {
                s.setCharAt(at, sign);
            } else if (how == 1) {
                s.insert(at, sign);
            } else if (how == 2) {
                s.deleteCharAt(at);
            } else {
                s.setLength(at);
            }
        }
        s.setLength(Math.min(80, s.length()));
        return s.toString();
    }

    private static String grammarText(Random random) {
        for (int tries = 0; tries < 1000; tries++) {
            String text = (char) ('A' + random.nextInt(26)) + ":" + or(random, random.nextInt(9));
            if (text.length() <= 80) {
                return text;
            }
        }
        return "A:c>0";
    }

    private static String or(Random random, int deep) {
        StringBuilder s = new StringBuilder(test(random, deep));
        for (int more = random.nextInt(3); more > 0; more--) {
            s.append(random.nextBoolean() ? '&' : '|').append(test(random, random.nextInt(3) == 0 ? deep : 0));
        }
        return s.toString();
    }

    private static String test(Random random, int deep) {
        String not = random.nextInt(4) == 0 ? "!" : random.nextInt(12) == 0 ? "!!" : "";
        if (deep > 0) {
            return not + "(" + or(random, deep - 1) + ")";
        }
        return not + sum(random) + "<>=".charAt(random.nextInt(3)) + sum(random);
    }

    private static String sum(Random random) {
        StringBuilder s = new StringBuilder(atom(random));
        for (int more = random.nextInt(random.nextBoolean() ? 1 : 4); more > 0; more--) {
            s.append("+-*%".charAt(random.nextInt(4))).append(atom(random));
        }
        return s.toString();
    }

    private static String atom(Random random) {
        if (random.nextInt(3) == 0) {
            int[] numbers = {0, 1, 2, 10, 95, 9999, random.nextInt(10), random.nextInt(10000)};
            return Integer.toString(numbers[random.nextInt(numbers.length)]);
        }
        return "" + "coltkdeswh".charAt(random.nextInt(10));
    }
}

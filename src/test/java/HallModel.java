import java.math.BigInteger;
import java.util.ArrayList;
import java.util.Arrays;
import java.util.Collections;
import java.util.Comparator;
import java.util.List;

/** The document read a second time, as plainly as it goes: what ModelTest holds HallSheets against. */
final class HallModel {
    private static final int FAR = -1000000000;

    private static final class H implements Cloneable {
        int n, list, town, kin, district, earlier, came, ours, kind, number;
        boolean watched;
        int[] written; // null: MISSING

        H copy() {
            try {
                return (H) clone();
            } catch (CloneNotSupportedException e) {
                throw new AssertionError(e);
            }
        }

        int share() {
            return written[0] == 0 ? 0 : written[1] * 100 / written[0];
        }
    }

    private static final class World {
        List<H> halls = new ArrayList<>();
        int[] laws = {0, 50, 50, 10, 50, 50, 50, 50, 50, 50};
        int[][] sent = new int[4][];
        List<String> marks = new ArrayList<>();

        World copy() {
            World w = new World();
            for (H h : halls) {
                w.halls.add(h.copy());
            }
            w.laws = laws.clone();
            w.sent = sent.clone();
            w.marks = new ArrayList<>(marks);
            return w;
        }

        List<H> written() {
            List<H> all = new ArrayList<>();
            for (H h : halls) {
                if (h.written != null) {
                    all.add(h);
                }
            }
            return all;
        }
    }

    private static final class Row {
        int sort;
        int[] v;
    }

    private World w = new World();
    private World image;
    private final Object[] shelves = new Object[8]; // null, an H (its SHEET, as it was), or a Row

    private boolean no(int hall) {
        return hall < 0 || hall >= w.halls.size();
    }

    private static boolean out(int v, int lo, int hi) {
        return v < lo || v > hi;
    }

    int hall(int list, int told, int earlier) {
        if (out(list, 1, 999) || out(told, 0, 1530) || out(earlier, 0, 100)) return -1;
        int town = told / 1000;
        int kin = told % 1000 / 100;
        int district = told % 100 / 10;
        if (kin > 5 || district > 3 || told != 1000 * town + 100 * kin + 10 * district) return -1;
        if (w.halls.size() == 30) return -2;
        H h = new H();
        h.n = w.halls.size();
        h.list = list;
        h.town = town;
        h.kin = kin;
        h.district = district;
        h.earlier = earlier;
        w.halls.add(h);
        return h.n;
    }

    int truly(int hall, int came, int ours) {
        if (no(hall) || out(came, 0, w.halls.get(hall).list) || out(ours, 0, came)) return -1;
        H h = w.halls.get(hall);
        int was = h.came;
        h.came = came;
        h.ours = ours;
        return was;
    }

    int sheet(int hall, int kind, int number) {
        if (no(hall) || out(kind, 0, 7) || out(number, 0, 999)) return -1;
        H h = w.halls.get(hall);
        int was = h.kind;
        h.kind = kind;
        h.number = number;
        return was;
    }

    int set(int what, int n) {
        if (out(what, 0, 9) || out(n, 0, what == 0 ? 9 : what == 3 ? 30 : 100)) return -1;
        int was = w.laws[what];
        w.laws[what] = n;
        return was;
    }

    private static int ten(int n) {
        int rest = n % 10;
        return rest >= 5 ? n - rest + 10 : n - rest;
    }

    private int[] tells(H h) {
        int c = h.came;
        int o = h.ours;
        if (h.kind == 2) {
            int told = Math.min(h.list, ten(c));
            return new int[] {told, Math.min(told, ten(o))};
        }
        if (h.kind == 3) {
            String made = Integer.toString(Math.min(c, c * h.number / 100));
            int liked = Integer.parseInt(made.substring(0, made.length() - 1) + w.laws[0]);
            return new int[] {c, liked <= c ? liked : Integer.parseInt(made)};
        }
        if (h.kind == 4) return new int[] {c + h.number, o + h.number};
        if (h.kind == 5) return new int[] {c, Math.min(c, o + h.number)};
        if (h.kind == 6) return new int[] {h.list, h.list};
        if (h.kind == 7) {
            String f = String.format("%03d", o);
            int changed = Integer.parseInt("" + f.charAt(0) + f.charAt(2) + f.charAt(1));
            return new int[] {c, changed <= c ? changed : o};
        }
        return new int[] {c, o};
    }

    int of(int hall, int what) {
        if (no(hall) || out(what, 0, 8)) return -1;
        H h = w.halls.get(hall);
        if (what >= 5 && what <= 7 && h.written == null) return -4;
        if (what == 7) return h.share();
        if (what == 8) return h.kind;
        int[] answers = {h.list, h.came, h.ours, tells(h)[0], tells(h)[1],
            h.written == null ? 0 : h.written[0], h.written == null ? 0 : h.written[1]};
        return answers[what];
    }

    int send(int hall) {
        if (hall != -1 && no(hall)) return -1;
        for (H h : w.halls) {
            if (hall == -1 || h.n == hall) h.written = tells(h);
        }
        return w.written().size();
    }

    private int two(int d, int e) {
        if (out(d, 0, 7) || out(e, 0, 7)) return -1;
        if (shelves[d] == null || shelves[e] == null) return -11;
        if (!(shelves[d] instanceof Row) || !(shelves[e] instanceof Row)) return -12;
        return ((Row) shelves[d]).sort != ((Row) shelves[e]).sort ? -12 : 0;
    }

    int hear(int c, int o) {
        int refusal = two(c, o);
        if (refusal != 0) return refusal;
        Row rc = (Row) shelves[c];
        Row ro = (Row) shelves[o];
        int least = new int[] {Byte.MIN_VALUE, Short.MIN_VALUE, Integer.MIN_VALUE}[rc.sort];
        for (H h : w.halls) {
            if (h.n >= rc.v.length || h.n >= ro.v.length || rc.v[h.n] == least || ro.v[h.n] == least) {
                h.written = null;
                continue;
            }
            int came = Math.max(0, Math.min(9999, rc.v[h.n]));
            int ours = Math.min(came, Math.max(0, Math.min(9999, ro.v[h.n])));
            h.written = new int[] {came, ours};
        }
        return w.written().size();
    }

    private static List<Integer> lasts(World w) {
        List<Integer> all = new ArrayList<>();
        for (H h : w.written()) {
            if (h.written[1] >= 100) all.add(h.written[1] % 10);
        }
        return all;
    }

    private static List<Integer> firsts(World w) {
        List<Integer> all = new ArrayList<>();
        for (H h : w.written()) {
            if (h.written[1] >= 1) all.add(Integer.toString(h.written[1]).charAt(0) - '0');
        }
        return all;
    }

    int figures(int figure, int what) {
        if (out(figure, 0, 9) || out(what, 0, 1)) return -1;
        return Collections.frequency(what == 0 ? lasts(w) : firsts(w), figure);
    }

    long odds(int figure) {
        if (out(figure, 0, 9)) return -1;
        List<Integer> all = lasts(w);
        List<Integer> some = all.subList(0, Math.min(18, all.size()));
        int k = Collections.frequency(some, figure);
        BigInteger[] rows = new BigInteger[some.size() + 2]; // by how often the figure came
        Arrays.fill(rows, BigInteger.ZERO);
        rows[0] = BigInteger.ONE;
        for (int i = 0; i < some.size(); i++) {
            for (int times = some.size(); times >= 0; times--) {
                rows[times] = rows[times].multiply(BigInteger.valueOf(9)).add(times > 0 ? rows[times - 1] : BigInteger.ZERO);
            }
        }
        BigInteger sum = BigInteger.ZERO;
        for (int times = k; times <= some.size(); times++) {
            sum = sum.add(rows[times]);
        }
        return sum.longValueExact();
    }

    private static boolean round(int came, int ours) {
        for (int p = 0; p <= 100; p += 5) {
            if (came > 0 && came * p == ours * 100) return true;
        }
        return false;
    }

    private static int rounds(World w, int p) {
        int n = 0;
        for (H h : w.written()) {
            if (round(h.written[0], h.written[1]) && (p == -1 || h.share() == p)) n++;
        }
        return n;
    }

    int round(int p) {
        if (p != -1 && (out(p, 0, 100) || p % 5 != 0)) return -1;
        return rounds(w, p);
    }

    int may(int n, int what) {
        if (out(what, 0, 1) || out(n, what == 0 ? 1 : 0, what == 0 ? 999 : 100)) return -1;
        int a = what == 0 ? 20 : 100;
        int gcd = BigInteger.valueOf(n).gcd(BigInteger.valueOf(a)).intValue();
        return what == 0 ? gcd + 1 : 100 / gcd;
    }

    int middle(int town) {
        if (out(town, 0, 1)) return -1;
        List<Integer> shares = new ArrayList<>();
        for (H h : w.written()) {
            if (h.town == town) shares.add(h.share());
        }
        Collections.sort(shares);
        return shares.isEmpty() ? -4 : shares.get(shares.size() / 2);
    }

    int left(int hall) {
        if (no(hall)) return FAR - 1;
        H h = w.halls.get(hall);
        return h.written == null ? FAR - 4 : h.share() - middle(h.town);
    }

    int trulyAll(int hall) {
        if (no(hall)) return -1;
        H h = w.halls.get(hall);
        if (h.written == null || h.written[0] != h.list || h.written[1] != h.list) return -4;
        boolean kin = false;
        for (H other : w.written()) {
            kin |= other != h && other.kin == h.kin && other.share() >= 95;
        }
        boolean before = h.earlier >= 95;
        return kin && before ? 2 : kin || before ? 1 : 0;
    }

    int watch(int hall, boolean is) {
        if (no(hall)) return -1;
        boolean was = w.halls.get(hall).watched;
        w.halls.get(hall).watched = is;
        return was == is ? 0 : 1;
    }

    private static int cost(List<Integer> those, List<Integer> others) {
        int a = 0;
        int b = 0;
        for (int s : those) a += s;
        for (int s : others) b += s;
        return a * others.size() - b * those.size();
    }

    private List<Integer> shares(boolean watched) {
        List<Integer> all = new ArrayList<>();
        for (H h : w.written()) {
            if (h.watched == watched) all.add(h.share());
        }
        return all;
    }

    int cost() {
        if (shares(true).isEmpty() || shares(false).isEmpty()) return FAR - 4;
        return cost(shares(true), shares(false));
    }

    int ways(int what) {
        if (out(what, 0, 1)) return -1;
        if (w.written().size() > 14) return -3;
        if (shares(true).isEmpty() || shares(false).isEmpty()) return -4;
        int limit = what == 1 ? Integer.MAX_VALUE : cost();
        return ways(w.written(), 0, new ArrayList<>(), new ArrayList<>(), shares(true).size(), limit);
    }

    private static int ways(List<H> all, int at, List<Integer> those, List<Integer> others, int wanted, int limit) {
        if (those.size() > wanted) return 0;
        if (at == all.size()) return those.size() == wanted && cost(those, others) <= limit ? 1 : 0;
        those.add(all.get(at).share());
        int with = ways(all, at + 1, those, others, wanted, limit);
        those.remove(those.size() - 1);
        others.add(all.get(at).share());
        int without = ways(all, at + 1, those, others, wanted, limit);
        others.remove(others.size() - 1);
        return with + without;
    }

    int up(int district, int came, int ours) {
        if (out(district, 0, 3) || out(came, 0, 99999) || out(ours, 0, 99999)) return -1;
        boolean was = w.sent[district] != null;
        w.sent[district] = new int[] {came, ours};
        return was ? 0 : 1;
    }

    int down(int district) {
        if (out(district, 0, 3)) return -1;
        boolean was = w.sent[district] != null;
        w.sent[district] = null;
        return was ? 1 : 0;
    }

    private int[] written(int district) {
        int[] sum = new int[2];
        for (H h : w.written()) {
            if (h.district == district) {
                sum[0] += h.written[0];
                sum[1] += h.written[1];
            }
        }
        return sum;
    }

    int sum(int district, int what) {
        if (out(district, 0, 3) || out(what, 0, 5)) return FAR - 1;
        int[] written = written(district);
        int[] sent = w.sent[district] == null ? written : w.sent[district];
        return what < 2 ? written[what] : what < 4 ? sent[what - 2] : sent[what - 4] - written[what - 4];
    }

    int won() {
        int came = 0;
        int ours = 0;
        for (int d = 0; d < 4; d++) {
            came += sum(d, 2);
            ours += sum(d, 3);
        }
        return ours * 2 > came ? 1 : 0;
    }

    int helped() {
        int all = 0;
        for (int d = 0; d < 4; d++) {
            all += 2 * sum(d, 5) - sum(d, 4);
        }
        return all;
    }

    private static int mustBe(H h) {
        return h.written[0] > h.list ? h.written[0] - h.list : 0;
    }

    int untrue(int hall, int what) {
        if (hall != -1 && no(hall) || out(what, 0, 1)) return -1;
        if (hall >= 0 && w.halls.get(hall).written == null) return -4;
        int all = 0;
        for (H h : w.written()) {
            if (hall == -1 || h.n == hall) {
                int far = Math.max(Math.abs(h.written[0] - h.came), Math.abs(h.written[1] - h.ours));
                all += what == 0 ? far : mustBe(h);
            }
        }
        return all;
    }

    int turn() {
        List<Integer> falls = new ArrayList<>();
        int above = 0;
        for (H h : w.written()) {
            above += 2 * h.written[1] - h.written[0];
            falls.add(2 * h.written[1] - h.written[0] - 2 * h.ours + h.came);
        }
        falls.sort(Comparator.reverseOrder());
        if (above <= 0) return 0;
        for (int i = 0; i < falls.size(); i++) {
            above -= falls.get(i);
            if (above <= 0) return i + 1;
        }
        return -4;
    }

    int again(int budget, int what) {
        if (out(budget, 0, 300) || out(what, 0, 1)) return -1;
        int n = w.halls.size();
        int[][] best = new int[n + 1][budget + 1]; // of the HALLS from one on
        for (int h = n - 1; h >= 0; h--) {
            for (int b = 0; b <= budget; b++) {
                best[h][b] = best[h + 1][b];
                if (costs(h) <= b) best[h][b] = Math.max(best[h][b], worth(h) + best[h + 1][b - costs(h)]);
            }
        }
        if (what == 0) return best[0][budget];
        int bits = 0;
        int coin = budget;
        for (int h = 0; h < n; h++) {
            if (best[h + 1][coin] < best[h][coin]) {
                bits |= 1 << h;
                coin -= costs(h);
            }
        }
        return bits;
    }

    private int costs(int hall) {
        H h = w.halls.get(hall);
        return h.written == null ? 1000000 : h.written[0] / 10 + 1;
    }

    private int worth(int hall) {
        return Math.abs(left(hall)) + (mustBe(w.halls.get(hall)) > 0 ? 50 : 0);
    }

    int measure(int what) {
        return out(what, 0, 4) ? -1 : measure(w, what);
    }

    private static int measure(World w, int what) {
        int all = 0;
        if (what == 2) return rounds(w, -1);
        if (what >= 3) {
            for (H h : w.written()) {
                all += what == 4 ? mustBe(h) : h.share() >= 95 ? 1 : 0;
            }
            return all;
        }
        List<Integer> figures = what == 0 ? lasts(w) : firsts(w);
        for (int f = what; f <= 9; f++) {
            int d = (what == 0 ? 10 : 9) * Collections.frequency(figures, f) - figures.size();
            all += d * d;
        }
        return all;
    }

    private static int made(World w, int z) {
        int all = 0;
        for (H h : w.halls) {
            z = z * 1103515245 + 12345;
            h.came = h.list * Math.max(0, Math.min(100, w.laws[1 + h.town] + draw(w, z))) / 100;
            z = z * 1103515245 + 12345;
            h.ours = h.came * Math.max(0, Math.min(100, w.laws[4 + h.kin] + draw(w, z))) / 100;
            all += h.came;
        }
        return all;
    }

    private static int draw(World w, int z) {
        long unsigned = z & 0xffffffffL;
        return (int) (unsigned % 2147483648L / 65536 % (2 * w.laws[3] + 1)) - w.laws[3];
    }

    int odd(int what, int n, int z) {
        if (out(what, 0, 4) || out(n, 1, 50)) return -1;
        int count = 0;
        for (int i = 0; i < n; i++) {
            World mind = w.copy();
            made(mind, z + i);
            for (H h : mind.written()) {
                h.written = new int[] {h.came, h.ours};
            }
            if (measure(mind, what) >= measure(w, what)) count++;
        }
        return count;
    }

    int land(int z) {
        return made(w, z);
    }

    /** Reads by the grammar's own words; the place where it stops is the FAULT. */
    private static final class Reader {
        private static final class Stop extends RuntimeException {
            private static final long serialVersionUID = 1;
        }

        private final String text;
        private final H h;
        private int at = 0;

        Reader(String text, H h) {
            this.text = text;
            this.h = h;
        }

        private char peek() {
            return at < text.length() ? text.charAt(at) : '$';
        }

        private char eat(String any) {
            if (at >= text.length() || any.indexOf(peek()) < 0) throw new Stop();
            return text.charAt(at++);
        }

        boolean mark() {
            eat("ABCDEFGHIJKLMNOPQRSTUVWXYZ");
            eat(":");
            boolean holds = or(0);
            if (at < text.length()) throw new Stop();
            return holds;
        }

        private boolean or(int depth) {
            boolean first = and(depth);
            if (peek() != '|') return first;
            eat("|");
            return or(depth) | first;
        }

        private boolean and(int depth) {
            boolean first = test(depth);
            if (peek() != '&') return first;
            eat("&");
            return and(depth) & first;
        }

        private boolean test(int depth) {
            if (peek() == '!') {
                eat("!");
                return !test(depth);
            }
            if (peek() == '(' && depth < 8) {
                eat("(");
                boolean inside = or(depth + 1);
                eat(")");
                return inside;
            }
            int one = sum();
            char sign = eat("<>=");
            int two = sum();
            return sign == '<' ? one < two : sign == '>' ? one > two : one == two;
        }

        private int sum() {
            int v = product();
            while (peek() == '+' || peek() == '-') {
                v = eat("+-") == '+' ? v + product() : v - product();
            }
            return v;
        }

        private int product() {
            int v = atom();
            while (peek() == '*' || peek() == '%') {
                char sign = eat("*%");
                int by = atom();
                v = sign == '*' ? v * by : by == 0 ? 0 : v % by;
            }
            return v;
        }

        private int atom() {
            char first = eat("0123456789coltkdeswh");
            if (Character.isDigit(first)) {
                String number = "" + first;
                while (!number.equals("0") && number.length() < 4 && Character.isDigit(peek())) {
                    number += eat("0123456789");
                }
                return Integer.parseInt(number);
            }
            if (h == null) return 0;
            int[] fields = {h.written[0], h.written[1], h.list, h.town, h.kin, h.district, h.earlier, h.share(),
                h.watched ? 1 : 0, h.n};
            return fields["coltkdeswh".indexOf(first)];
        }

        int fault() {
            try {
                mark();
                return -4;
            } catch (Stop e) {
                return at;
            }
        }
    }

    private String text(int d) {
        StringBuilder s = new StringBuilder();
        for (int v : ((Row) shelves[d]).v) {
            s.append((char) (v & 255));
        }
        return s.toString();
    }

    private int noText(int d) {
        int refusal = two(d, d);
        return refusal != 0 ? refusal : ((Row) shelves[d]).sort != 0 ? -12 : 0;
    }

    int fault(int d) {
        return noText(d) != 0 ? noText(d) : new Reader(text(d), null).fault();
    }

    int mark(int d) {
        if (out(d, 0, 7)) return -1;
        if (w.marks.size() == 10) return -2;
        if (noText(d) != 0) return noText(d);
        int fault = fault(d);
        if (fault != -4) return -100 - fault;
        w.marks.add(text(d));
        return w.marks.size() - 1;
    }

    int marked(int hall) {
        if (no(hall)) return -1;
        H h = w.halls.get(hall);
        if (h.written == null) return -4;
        for (String m : w.marks) {
            if (new Reader(m, h).mark()) return m.charAt(0);
        }
        return -4;
    }

    int said(int name, int what) {
        if (out(name, 65, 90) || out(what, 0, 1)) return -1;
        int all = 0;
        for (H h : w.written()) {
            if (marked(h.n) == name) all += what == 0 ? 1 : h.written[1];
        }
        return all;
    }

    int image() {
        image = w.copy();
        return w.halls.size();
    }

    int restore() {
        if (image == null) return -3;
        w = image.copy();
        return w.halls.size();
    }

    int count(int what) {
        int lists = 0;
        int watched = 0;
        int came = 0;
        int ours = 0;
        for (H h : w.halls) {
            lists += h.list;
            watched += h.watched ? 1 : 0;
            came += h.written == null ? 0 : h.written[0];
            ours += h.written == null ? 0 : h.written[1];
        }
        int[] all = {w.halls.size(), w.halls.size() - w.written().size(), w.marks.size(), lists, watched, came, ours};
        return out(what, 0, 6) ? -1 : all[what];
    }

    int keep(int d, int what, int k) {
        if (out(d, 0, 7) || out(what, 0, 1) || what == 1 && no(k)) return -1;
        shelves[d] = what == 0 ? null : w.halls.get(k).copy();
        return 0;
    }

    int row(int d, int sort, int n) {
        if (out(d, 0, 7) || out(sort, 0, 2) || n > 80) return -1;
        if (n < 0) return -14;
        Row r = new Row();
        r.sort = sort;
        r.v = new int[n];
        shelves[d] = r;
        return 0;
    }

    int put(int d, int i, int v) {
        if (two(d, d) != 0) return two(d, d);
        Row r = (Row) shelves[d];
        if (out(i, 0, r.v.length - 1)) return -13;
        r.v[i] = r.sort == 0 ? (byte) v : r.sort == 1 ? (short) v : v;
        return 0;
    }

    long element(int d, int i) {
        if (out(d, 0, 7)) throw new IllegalArgumentException();
        if (!(shelves[d] instanceof Row) || out(i, 0, ((Row) shelves[d]).v.length - 1)) throw new IllegalStateException();
        return ((Row) shelves[d]).v[i];
    }

    int copy(int d, int i, int e, int j, int n) {
        if (two(d, e) != 0) return two(d, e);
        try {
            System.arraycopy(((Row) shelves[d]).v, i, ((Row) shelves[e]).v, j, n);
            return n;
        } catch (IndexOutOfBoundsException x) {
            return -13;
        }
    }

    private int noSheet(int d) {
        if (out(d, 0, 7)) return -1;
        return shelves[d] == null ? -11 : shelves[d] instanceof H ? 0 : -12;
    }

    int weight(int d) {
        if (noSheet(d) != 0) return noSheet(d);
        H h = (H) shelves[d];
        int[] all = {10, 11, 15, 20 + h.number, 11 + h.number, 10 + 2 * h.number, 22, 7};
        return all[h.kind];
    }

    int toss(int d) {
        if (noSheet(d) != 0) return noSheet(d);
        H h = (H) shelves[d];
        if (h.came == 0 || h.kind == 6) return -15;
        return h.kind == 3 ? h.number : h.n + (h.kind == 4 ? 100 : h.kind == 7 ? 200 : 0);
    }
}

import java.util.ArrayList;
import java.util.List;
import java.util.Random;

/** Objects that the document makes alike answer alike to all that can be asked. The seeds are fixed. */
public final class AlikeTest {
    private static final int RUNS = 400;
    private static final int C_SHELF = 6;
    private static final int O_SHELF = 7;
    private static final Checks CHECKS = new Checks("AlikeTest");
    private static final String[] TEXTS = {"A:c>9&s>40", "B:w=1|e>94", "C:o%10=0", "D:t=0&k<1", "A:!(d=0)&h%2=1", "B:c+o>l*2"};

    /** HALLS with what they are, TRULY, their SHEETS and what is WRITTEN of them: -1 if they are MISSING. */
    private static final class Told {
        final int n;
        final int[] list;
        final int[] told;
        final int[] earlier;
        final int[] trueCame;
        final int[] trueOurs;
        final int[] kind;
        final int[] number;
        final int[] came;
        final int[] ours;
        final boolean[] watched;

        Told(int n) {
            this.n = n;
            list = new int[n];
            told = new int[n];
            earlier = new int[n];
            trueCame = new int[n];
            trueOurs = new int[n];
            kind = new int[n];
            number = new int[n];
            came = new int[n];
            ours = new int[n];
            watched = new boolean[n];
        }
    }

    private AlikeTest() {
    }

    public static void main(String[] args) {
        for (int run = 0; run < RUNS; run++) {
            onceWritten(new Random(run));
            sentOrHeard(new Random(1000 + run));
            restored(new Random(2000 + run));
            asked(new Random(3000 + run));
            takenBack(new Random(4000 + run));
            inAnotherOrder(new Random(5000 + run));
            notTheOthers(new Random(6000 + run));
        }
        CHECKS.end();
    }

    private static void alike(String what, HallSheets x, HallSheets y) {
        alike(what, Answers.of(x), Answers.of(y));
    }

    private static void alike(String what, List<String> got, List<String> want) {
        CHECKS.due(what + ": answers", got.size(), want.size());
        for (int i = 0; i < got.size() && i < want.size(); i++) {
            CHECKS.holds(what + ": " + got.get(i) + " as " + want.get(i), got.get(i).equals(want.get(i)));
        }
    }

    private static int oneOf(Random random, int... numbers) {
        return numbers[random.nextInt(numbers.length)];
    }

    /** Numbers near those at which answers change: whole LISTS, SHARES of 95, ROUND ones, LAST figures. */
    private static Told someHalls(Random random) {
        Told t = new Told(1 + random.nextInt(6));
        for (int h = 0; h < t.n; h++) {
            t.list[h] = oneOf(random, 1, 20, 100, 200, 500, 1 + random.nextInt(999));
            t.told[h] = 1000 * random.nextInt(2) + 100 * oneOf(random, 0, 0, 1, 5) + 10 * random.nextInt(4);
            t.earlier[h] = oneOf(random, 0, 94, 95, 100);
            t.trueCame[h] = oneOf(random, 0, t.list[h], random.nextInt(t.list[h] + 1));
            t.trueOurs[h] = oneOf(random, t.trueCame[h], random.nextInt(t.trueCame[h] + 1));
            t.kind[h] = random.nextInt(8);
            t.number[h] = oneOf(random, 0, 7, 50, 95, random.nextInt(1000));
            write(t, h, random);
            t.watched[h] = random.nextBoolean();
        }
        return t;
    }

    private static void write(Told t, int h, Random random) {
        int came = oneOf(random, t.list[h], t.list[h], t.list[h] + 3, random.nextInt(1200), 20, 100);
        t.came[h] = random.nextInt(3) == 0 ? -1 : came;
        t.ours[h] = oneOf(random, came, came, came * 19 / 20, random.nextInt(came + 1));
    }

    private static HallSheets halls(Told t) {
        HallSheets x = new HallSheets();
        for (int h = 0; h < t.n; h++) {
            x.hall(t.list[h], t.told[h], t.earlier[h]);
            x.truly(h, t.trueCame[h], t.trueOurs[h]);
            x.sheet(h, t.kind[h], t.number[h]);
            x.watch(h, t.watched[h]);
        }
        return x;
    }

    private static HallSheets heard(HallSheets x, Told t) {
        return Edges.write(x, t.came, t.ours);
    }

    /** The same MARKS, LAWS and sums SENT UP for each object of a run. */
    private static HallSheets furnished(HallSheets x, long seed) {
        Random random = new Random(seed);
        for (int m = random.nextInt(4); m > 0; m--) {
            Checks.text(x, 5, TEXTS[random.nextInt(TEXTS.length)]).mark(5);
        }
        for (int district = 0; district < 4; district++) {
            if (random.nextInt(3) == 0) {
                x.up(district, random.nextInt(1500), random.nextInt(1000));
            }
        }
        for (int what = 0; what <= 9; what++) {
            if (random.nextInt(3) == 0) {
                x.set(what, random.nextInt(what == 0 ? 10 : what == 3 ? 31 : 101));
            }
        }
        return x;
    }

    private static void onceWritten(Random random) {
        CHECKS.part("promises 6, 8 to 33, 36, \"of what is WRITTEN in HALLS that aren't MISSING\": once WRITTEN is as never WRITTEN");
        Told t = someHalls(random);
        Told before = new Told(t.n);
        for (int h = 0; h < t.n; h++) {
            before.list[h] = t.list[h];
            write(before, h, random);
        }
        long seed = random.nextLong();
        HallSheets x = heard(heard(furnished(halls(t), seed), before), t);
        alike("by the least number", x, heard(furnished(halls(t), seed), t));
        boolean shorterCame = random.nextBoolean();
        HallSheets y = heard(furnished(halls(t), seed), before);
        y.row(C_SHELF, 2, shorterCame ? 0 : t.n);
        y.row(O_SHELF, 2, shorterCame ? t.n : 0);
        y.hear(C_SHELF, O_SHELF);
        alike("behind the end", y, furnished(halls(t), seed));
    }

    private static void sentOrHeard(Random random) {
        CHECKS.part("promises 7, 8, \"as its SHEET TELLS when they are sent; or as ROWS tell them\"");
        Told t = someHalls(random);
        long seed = random.nextLong();
        HallSheets sent = furnished(halls(t), seed);
        Told later = someHalls(random);
        HallSheets heard = furnished(halls(t), seed);
        sent.set(0, 3);
        for (int h = 0; h < t.n; h++) {
            if (t.came[h] >= 0) {
                sent.send(h);
            }
            t.ours[h] = sent.of(h, 4);
            t.came[h] = t.came[h] < 0 ? -1 : sent.of(h, 3);
        }
        heard(heard, t);
        for (HallSheets x : new HallSheets[] {sent, heard}) {
            x.set(0, 8);
            for (int h = 0; h < t.n; h++) {
                x.truly(h, t.list[h] / 2, t.list[h] / 3);
                x.sheet(h, later.kind[h % later.n], later.number[h % later.n]);
            }
        }
        alike("then TRULY, SHEETS and LIKED change", sent, heard);
    }

    private static void restored(Random random) {
        CHECKS.part("promises 34, 35, \"RESTORED all is as it was then\"");
        Told t = someHalls(random);
        long seed = random.nextLong();
        HallSheets x = heard(furnished(halls(t), seed), t);
        HallSheets y = heard(furnished(halls(t), seed), t);
        x.image();
        changes(x, random, 40);
        if (random.nextBoolean()) {
            x.restore();
            changes(x, random, 20);
        }
        x.restore();
        for (HallSheets z : new HallSheets[] {x, y}) {
            z.hall(500, 1110, 95);
            z.watch(0, true);
            Checks.text(z, 5, "D:w=1").mark(5);
        }
        alike("with a HALL and a MARK more", x, y);
    }

    /** Calls that tell an object something, of any HALL that it may have. */
    private static void changes(HallSheets x, Random random, int n) {
        for (int i = 0; i < n; i++) {
            int h = random.nextInt(Math.max(1, x.count(0)));
            switch (random.nextInt(12)) {
                case 0: x.hall(1 + random.nextInt(999), 1000 * random.nextInt(2) + 10 * random.nextInt(4), 96); break;
                case 1: x.truly(h, random.nextInt(100), random.nextInt(50)); break;
                case 2: x.sheet(h, random.nextInt(8), random.nextInt(1000)); break;
                case 3: x.set(random.nextInt(10), random.nextInt(10)); break;
                case 4: x.send(random.nextInt(3) - 1); break;
                case 5: x.hear(C_SHELF, O_SHELF); break;
                case 6: x.watch(h, random.nextBoolean()); break;
                case 7: x.up(random.nextInt(4), random.nextInt(999), random.nextInt(999)); break;
                case 8: x.down(random.nextInt(4)); break;
                case 9: x.land(random.nextInt()); break;
                case 10: x.row(O_SHELF, 2, random.nextInt(4)); break;
                default: x.mark(5); break;
            }
        }
    }

    private static void asked(Random random) {
        CHECKS.part("promises 6, 9 to 36, 40, 42, 43: what is asked changes nothing");
        Told t = someHalls(random);
        long seed = random.nextLong();
        HallSheets x = heard(furnished(halls(t), seed), t);
        HallSheets y = heard(furnished(halls(t), seed), t);
        for (HallSheets z : new HallSheets[] {x, y}) {
            Checks.text(z, 0, "Z:c=1|o=2");
            z.keep(1, 1, 0);
        }
        for (int i = 0; i < 60; i++) {
            ask(x, random);
        }
        alike("but for SHELVES", x, y);
        alike("the SHELVES", Answers.ofShelves(x), Answers.ofShelves(y));
    }

    private static void ask(HallSheets x, Random random) {
        int a = random.nextInt(12) - 1;
        int b = random.nextInt(10) - 1;
        switch (random.nextInt(25)) {
            case 0: x.of(a, b); break;
            case 1: x.figures(a, b); break;
            case 2: x.odds(a); break;
            case 3: x.round(5 * a); break;
            case 4: x.may(a, b); break;
            case 5: x.middle(b); break;
            case 6: x.left(a); break;
            case 7: x.trulyAll(a); break;
            case 8: x.cost(); break;
            case 9: x.ways(b); break;
            case 10: x.sum(a, b); break;
            case 11: x.won(); break;
            case 12: x.helped(); break;
            case 13: x.untrue(a, b); break;
            case 14: x.turn(); break;
            case 15: x.again(20 * a, b); break;
            case 16: x.measure(a); break;
            case 17: x.odd(b, 1 + random.nextInt(50), random.nextInt()); break;
            case 18: x.fault(b); break;
            case 19: x.marked(a); break;
            case 20: x.said('A' + a, b); break;
            case 21: x.count(a); break;
            case 22: x.weight(b); break;
            case 23: x.toss(b); break;
            default: Edges.thrownBy(x, b, a); break;
        }
    }

    private static void takenBack(Random random) {
        CHECKS.part("promises 3, 4, 5, 16, 19, 20: what is told and told back is as never told");
        Told t = someHalls(random);
        long seed = random.nextLong();
        HallSheets x = heard(furnished(halls(t), seed), t);
        int h = random.nextInt(t.n);
        x.watch(h, !t.watched[h]);
        x.watch(h, t.watched[h]);
        x.truly(h, t.list[h], 1);
        x.truly(h, t.trueCame[h], t.trueOurs[h]);
        x.sheet(h, 7 - t.kind[h], 999);
        x.sheet(h, t.kind[h], t.number[h]);
        int law = random.nextInt(10);
        int was = x.set(law, 1);
        x.set(law, was);
        int district = random.nextInt(4);
        boolean told = x.down(district) == 1;
        x.up(district, 99999, 0);
        x.down(district);
        HallSheets y = heard(furnished(halls(t), seed), t);
        if (told) {
            y.down(district);
        }
        alike("HALL " + h + ", law " + law + ", DISTRICT " + district, x, y);
    }

    /** HALLS the other way round: what is of all of them stays, and what is of one goes with it. */
    private static void inAnotherOrder(Random random) {
        CHECKS.part("promises 9 to 27, 36: of all HALLS is what it is in any order of them");
        Told t = someHalls(random);
        Told r = new Told(t.n);
        for (int h = 0; h < t.n; h++) {
            int from = t.n - 1 - h;
            r.list[h] = t.list[from];
            r.told[h] = t.told[from];
            r.earlier[h] = t.earlier[from];
            r.trueCame[h] = t.trueCame[from];
            r.trueOurs[h] = t.trueOurs[from];
            r.kind[h] = t.kind[from];
            r.number[h] = t.number[from];
            r.came[h] = t.came[from];
            r.ours[h] = t.ours[from];
            r.watched[h] = t.watched[from];
        }
        long seed = random.nextLong();
        List<String> got = Answers.of(heard(furnished(halls(t), seed), t));
        List<String> want = Answers.of(heard(furnished(halls(r), seed), r));
        alike("of all HALLS", ofAll(got), ofAll(want));
        for (int h = 0; h < t.n; h++) {
            alike("of HALL " + h, ofOne(got, h), ofOne(want, t.n - 1 - h));
        }
    }

    /** Without what is of one HALL, of LANDS (drawn by their order), of MARKS by number, of which to count again. */
    private static List<String> ofAll(List<String> answers) {
        List<String> all = new ArrayList<>();
        for (String answer : answers) {
            boolean isWhich = answer.matches("again\\(\\d+, 1\\).*");
            boolean isOfOne = answer.matches("(of|left|trulyAll|untrue|marked)\\(\\d.*");
            if (!isWhich && !isOfOne && !answer.startsWith("odd(") && !answer.startsWith("said(")) {
                all.add(answer);
            }
        }
        return all;
    }

    private static List<String> ofOne(List<String> answers, int h) {
        List<String> all = new ArrayList<>();
        for (String answer : answers) {
            if (answer.matches("(of|left|trulyAll|untrue)\\(" + h + "[,)].*")) {
                all.add(answer.replace("(" + h, "("));
            }
        }
        return all;
    }

    private static void notTheOthers(Random random) {
        CHECKS.part("promise 1: another object's calls do not matter");
        Told t = someHalls(random);
        Told u = someHalls(random);
        long seed = random.nextLong();
        HallSheets x = furnished(halls(t), seed);
        HallSheets other = furnished(halls(u), seed + 1);
        heard(x, t);
        heard(other, u);
        x.image();
        other.image();
        changes(other, random, 30);
        if (random.nextBoolean()) {
            changes(x, random, 10);
            other.restore();
            x.restore();
        }
        alike("beside it", x, heard(furnished(halls(t), seed), t));
    }
}

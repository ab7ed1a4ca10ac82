import java.util.ArrayList;
import java.util.List;

/**
 * What an object of at most 6 HALLS answers to all that can be asked of it, each answer with its call.
 * It takes some 230 calls: an object's 512 leave as many to tell it something.
 */
final class Answers {
    private final HallSheets x;
    private final List<String> all = new ArrayList<>();

    private Answers(HallSheets x) {
        this.x = x;
    }

    /** All but what is in SHELVES. */
    static List<String> of(HallSheets x) {
        Answers its = new Answers(x);
        its.counts();
        for (int h = 0; h < x.count(0) && h < 6; h++) {
            its.hall(h);
        }
        its.figures();
        its.clouds();
        its.sums();
        its.lands();
        its.marks();
        return its.all;
    }

    /** What the SHELVES show. */
    static List<String> ofShelves(HallSheets x) {
        Answers its = new Answers(x);
        for (int d = 0; d < 8; d++) {
            its.add("weight(" + d + ")", x.weight(d));
            its.add("toss(" + d + ")", x.toss(d));
            its.add("fault(" + d + ")", x.fault(d));
            its.add("put(" + d + ", 80, 0)", x.put(d, 80, 0));
            for (int i = 0; i < 5; i++) {
                int thrown = Edges.thrownBy(x, d, i);
                its.add("element(" + d + ", " + i + ")", thrown != 0 ? -thrown : x.element(d, i));
            }
        }
        return its.all;
    }

    private void add(String call, long answer) {
        all.add(call + " = " + answer);
    }

    private void counts() {
        for (int what = 0; what <= 6; what++) {
            add("count(" + what + ")", x.count(what));
        }
    }

    private void hall(int h) {
        for (int what = 0; what <= 8; what++) {
            add("of(" + h + ", " + what + ")", x.of(h, what));
        }
        add("left(" + h + ")", x.left(h));
        add("trulyAll(" + h + ")", x.trulyAll(h));
        add("untrue(" + h + ", 0)", x.untrue(h, 0));
        add("untrue(" + h + ", 1)", x.untrue(h, 1));
        add("marked(" + h + ")", x.marked(h));
    }

    private void figures() {
        for (int figure = 0; figure <= 9; figure++) {
            add("figures(" + figure + ", 0)", x.figures(figure, 0));
            add("figures(" + figure + ", 1)", x.figures(figure, 1));
            add("odds(" + figure + ")", x.odds(figure));
        }
        for (int p = 0; p <= 100; p += 5) {
            add("round(" + p + ")", x.round(p));
        }
        add("round(-1)", x.round(-1));
    }

    private void clouds() {
        for (int two = 0; two <= 1; two++) {
            add("middle(" + two + ")", x.middle(two));
            add("ways(" + two + ")", x.ways(two));
            add("untrue(-1, " + two + ")", x.untrue(-1, two));
        }
        add("cost()", x.cost());
    }

    private void sums() {
        for (int district = 0; district < 4; district++) {
            for (int what = 0; what <= 5; what++) {
                add("sum(" + district + ", " + what + ")", x.sum(district, what));
            }
        }
        add("won()", x.won());
        add("helped()", x.helped());
        add("turn()", x.turn());
        for (int budget : new int[] {0, 1, 2, 11, 30, 90, 300}) {
            add("again(" + budget + ", 0)", x.again(budget, 0));
            add("again(" + budget + ", 1)", x.again(budget, 1));
        }
    }

    private void lands() {
        for (int what = 0; what <= 4; what++) {
            add("measure(" + what + ")", x.measure(what));
            add("odd(" + what + ", 20, -3)", x.odd(what, 20, -3));
        }
    }

    private void marks() {
        for (int name = 'A'; name <= 'D'; name++) {
            add("said(" + name + ", 0)", x.said(name, 0));
            add("said(" + name + ", 1)", x.said(name, 1));
        }
    }
}

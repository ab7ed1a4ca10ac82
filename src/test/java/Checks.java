/** Counts answers that are due, and prints each that is not. */
final class Checks {
    private final String name;
    private int right = 0;
    private int wrong = 0;
    private String part = "";

    Checks(String name) {
        this.name = name;
    }

    void part(String of) {
        part = of;
    }

    void due(String call, long got, long want) {
        if (got == want) {
            right++;
            return;
        }
        wrong++;
        if (wrong <= 40) {
            System.out.println(name + ", " + part + ": " + call + " answered " + got + ", due is " + want);
        }
    }

    void holds(String what, boolean is) {
        due(what, is ? 1 : 0, 1);
    }

    void end() {
        System.out.println(name + ": " + right + " as due, " + wrong + " not");
        if (wrong != 0 || right == 0) {
            System.exit(1);
        }
    }

    /** Puts a text into a SHELF as a ROW of bytes. */
    static HallSheets text(HallSheets x, int shelf, String signs) {
        x.row(shelf, 0, signs.length());
        for (int i = 0; i < signs.length(); i++) {
            x.put(shelf, i, signs.charAt(i));
        }
        return x;
    }

    /** Puts numbers into a SHELF as a ROW of a SORT. */
    static HallSheets numbers(HallSheets x, int shelf, int sort, int... values) {
        x.row(shelf, sort, values.length);
        for (int i = 0; i < values.length; i++) {
            x.put(shelf, i, values[i]);
        }
        return x;
    }
}

/** The boundaries that promises 30 to 33 name: marks. */
public final class MarkEdgesTest {
    private static final int LEAST = Edges.LEAST;
    private static final int MOST = Edges.MOST;
    private static final String DIGITS = "0123456789";
    private static final String ATOM = DIGITS + "coltkdeswh";
    private static final String TEST = ATOM + "!(";
    private static final String BEHIND_LEFT = "+-*%<>=";
    private static final String BEHIND_RIGHT = "+-*%&|";
    private static final Edges EDGES = new Edges("MarkEdgesTest");

    private MarkEdgesTest() {
    }

    public static void main(String[] args) {
        whichShelves();
        names();
        everyByte();
        everyByteInGroups();
        everyByteOfNumbers();
        tooEarly();
        numbers();
        deep();
        longTexts();
        markRefusals();
        mostMarks();
        ownTexts();
        whichMarked();
        firstThatHolds();
        comparisons();
        machineNumbers();
        joints();
        deepJoints();
        eightyBytes();
        fields();
        whichSaid();
        said();
        EDGES.end(30, 33);
    }

    private static void due(String call, long got, long want) {
        EDGES.due(call, got, want);
    }

    private static int faultOf(String text) {
        return Checks.text(new HallSheets(), 0, text).fault(0);
    }

    private static void whichShelves() {
        EDGES.sentence(30, "-1, -11, -12 (no ROW of bytes)");
        HallSheets x = Edges.halls(1);
        for (int d : new int[] {-1, 8, LEAST, MOST}) {
            due("fault(" + d + ")", x.fault(d), -1);
        }
        due("fault(0) of nothing", x.fault(0), -11);
        due("fault(7) of nothing", x.fault(7), -11);
        x.keep(0, 1, 0);
        due("a SHEET", x.fault(0), -12);
        for (int sort = 1; sort <= 2; sort++) {
            due("a good text of SORT " + sort, Checks.numbers(x, 1, sort, 'A', ':', 'c', '=', '0').fault(1), -12);
            x.row(1, sort, 0);
            due("an empty ROW of SORT " + sort, x.fault(1), -12);
        }
        due("a good text in SHELF 7", Checks.text(x, 7, "A:c=0").fault(7), -4);
        due("it is no MARK by this", x.count(2), 0);
    }

    private static void names() {
        EDGES.sentence(30, "NAME (A .. Z)");
        for (int sign = -128; sign <= 127; sign++) {
            HallSheets x = Checks.text(new HallSheets(), 0, "A:c=0");
            x.put(0, 0, sign);
            due("a NAME of " + sign, x.fault(0), sign >= 'A' && sign <= 'Z' ? -4 : 0);
        }
        EDGES.sentence(30, "what is put in keeps its lowest bits");
        HallSheets x = Checks.text(new HallSheets(), 0, "A:c=0");
        x.put(0, 0, 'A' + 256);
        x.put(0, 1, ':' - 512);
        due("A and 256, : less 512", x.fault(0), -4);
        x.put(0, 0, 'A' + 128);
        due("A and 128", x.fault(0), 0);
    }

    /** Behind a beginning just these bytes let a MARK go on. */
    private static void goOn(String beginning, String allowed) {
        for (int sign = -128; sign <= 127; sign++) {
            HallSheets x = Checks.text(new HallSheets(), 0, beginning + "?");
            x.put(0, beginning.length(), sign);
            boolean goesOn = sign > 0 && allowed.indexOf(sign) >= 0;
            int fault = x.fault(0);
            due(sign + " behind " + beginning + (goesOn ? " goes on" : ""), fault == beginning.length() ? 0 : 1, goesOn ? 1 : 0);
            due(sign + " behind " + beginning + ", at its place or at the size",
                fault == -4 || fault >= beginning.length() && fault <= beginning.length() + 1 ? 1 : 0, 1);
        }
    }

    private static void everyByte() {
        EDGES.sentence(30, "FAULT: the place of the first byte with which no MARK can go on");
        goOn("", "ABCDEFGHIJKLMNOPQRSTUVWXYZ");
        goOn("Q", ":");
        goOn("Q:", TEST);
        goOn("Q:!", TEST);
        goOn("Q:c", BEHIND_LEFT);
        goOn("Q:h+c", BEHIND_LEFT);
        goOn("Q:c+", ATOM);
        goOn("Q:c-", ATOM);
        goOn("Q:c*", ATOM);
        goOn("Q:c%", ATOM);
        goOn("Q:c<", ATOM);
        goOn("Q:c>", ATOM);
        goOn("Q:c=", ATOM);
        goOn("Q:c=h", BEHIND_RIGHT);
        goOn("Q:!c=h*s", BEHIND_RIGHT);
        goOn("Q:c=h-", ATOM);
        goOn("Q:c=0&", TEST);
        goOn("Q:c=0|", TEST);
        goOn("Q:c=0&c", BEHIND_LEFT);
        goOn("Q:c=0&c<w", BEHIND_RIGHT);
    }

    private static void everyByteInGroups() {
        EDGES.sentence(30, "TEST: ! TEST; ( OR ); SUM, one of < > =, SUM");
        goOn("Q:(", TEST);
        goOn("Q:(c", BEHIND_LEFT);
        goOn("Q:(c=h", BEHIND_RIGHT + ")");
        goOn("Q:(c=h)", "&|");
        goOn("Q:!(c=h)", "&|");
        goOn("Q:((c=h)", "&|)");
        goOn("Q:((c=h))", "&|");
        goOn("Q:(c=h)&", TEST);
        goOn("Q:(c=h)|(c", BEHIND_LEFT);
        goOn("Q:(c=h)|c=o", BEHIND_RIGHT);
        goOn("Q:((c=h)&c=o", BEHIND_RIGHT + ")");
        goOn("Q:(((((((", TEST);
        goOn("Q:((((((((", ATOM + "!");
        goOn("Q:((((((((!", ATOM + "!");
        goOn("Q:((((((((c=0&", ATOM + "!");
        goOn("Q:((((((((c=0)&", TEST);
    }

    private static void everyByteOfNumbers() {
        EDGES.sentence(30, "a NUMBER of 1 to 4 digits without 0 ahead of others");
        goOn("Q:0", BEHIND_LEFT);
        goOn("Q:1", DIGITS + BEHIND_LEFT);
        goOn("Q:10", DIGITS + BEHIND_LEFT);
        goOn("Q:100", DIGITS + BEHIND_LEFT);
        goOn("Q:1000", BEHIND_LEFT);
        goOn("Q:c+0", BEHIND_LEFT);
        goOn("Q:c+999", DIGITS + BEHIND_LEFT);
        goOn("Q:c+9999", BEHIND_LEFT);
        goOn("Q:c=0", BEHIND_RIGHT);
        goOn("Q:c=123", DIGITS + BEHIND_RIGHT);
        goOn("Q:c=1234", BEHIND_RIGHT);
        goOn("Q:(c=5", DIGITS + BEHIND_RIGHT + ")");
        goOn("Q:9999=1", DIGITS + BEHIND_RIGHT);
        goOn("Q:0=1000", BEHIND_RIGHT);
    }

    private static void tooEarly() {
        EDGES.sentence(30, "(the size, if it ends too early)");
        String text = "A:!(c+12=o&!(h<3|w>1))|((s=5))";
        for (int size = 0; size < text.length(); size++) {
            boolean whole = size == text.indexOf('|', 22);
            due(text.substring(0, size), faultOf(text.substring(0, size)), whole ? -4 : size);
        }
        due(text, faultOf(text), -4);
        due("an empty ROW", faultOf(""), 0);
        for (int size : new int[] {1, 2, 80}) {
            HallSheets x = new HallSheets();
            x.row(0, 0, size);
            due("a ROW of zeros of " + size, x.fault(0), 0);
        }
    }

    private static void numbers() {
        EDGES.sentence(30, "1 to 4 digits without 0 ahead of others");
        String[] good = {"0", "1", "9", "10", "99", "100", "999", "1000", "9999", "1001"};
        for (String number : good) {
            due(number, faultOf("A:" + number + "=" + number), -4);
        }
        due("00", faultOf("A:00=0"), 3);
        due("01", faultOf("A:01=0"), 3);
        due("0000", faultOf("A:c=0000"), 5);
        due("10000", faultOf("A:10000=0"), 6);
        due("99999 on the right", faultOf("A:c=99999"), 8);
        due("0 behind a NUMBER", faultOf("A:c=1+01"), 7);
        due("two NUMBERS of 4 digits", faultOf("A:1234+5678=1234*5678"), -4);
        due("0 and a NUMBER of 4 digits", faultOf("A:0+5678=0*5678"), -4);
    }

    private static void deep() {
        EDGES.sentence(30, "( at most 8 deep");
        String eight = "((((((((";
        String shut = "))))))))";
        due("8 deep", faultOf("A:" + eight + "c=0" + shut), -4);
        due("9 deep", faultOf("A:" + eight + "(c=0)" + shut), 10);
        due("8 deep with ! ahead of each", faultOf("A:" + eight.replace("(", "!(") + "c=0" + shut), -4);
        due("9 deep with ! ahead of each", faultOf("A:" + eight.replace("(", "!(") + "!(c=0)"), 19);
        due("8 deep, twice", faultOf("A:" + eight + "c=0" + shut + "&" + eight + "c=0" + shut), -4);
        due("9 deep behind 8", faultOf("A:" + eight + "c=0" + shut + "&" + eight + "(c=0)" + shut), 30);
        due("10 beside one another", faultOf("A:(c=0)&(c=0)&(c=0)&(c=0)&(c=0)|(c=0)|(c=0)|(c=0)|(c=0)|(c=0)"), -4);
        due("a 9th beside the 8th", faultOf("A:" + eight + "c=0)|(c=0" + shut), -4);
        due("a ) too many", faultOf("A:" + eight + "c=0" + shut + ")"), 21);
        due("one too few", faultOf("A:" + eight + "c=0" + shut.substring(1)), 20);
        EDGES.sentence(30, "( at most 8 deep, for each text anew");
        HallSheets x = Checks.text(new HallSheets(), 0, "A:" + eight + "c=0");
        due("none is shut", x.fault(0), 13);
        due("8 deep behind it", Checks.text(x, 0, "A:" + eight + "c=0" + shut).fault(0), -4);
        due("a ) too many behind it", Checks.text(x, 0, "A:c=0)").fault(0), 5);
        due("a MARK behind it", Checks.text(x, 0, "A:(c=0)").mark(0), 0);
    }

    private static void longTexts() {
        EDGES.sentence(30, "0 .. 80 elements: a text of 80");
        StringBuilder text = new StringBuilder("A:");
        while (text.length() < 77) {
            text.append('!');
        }
        due("80 bytes, whole", faultOf(text + "c=0"), -4);
        due("80 bytes, the last one is wrong", faultOf(text + "c=="), 79);
        due("80 bytes, too early", faultOf(text + "!c="), 80);
        due("its MARK", Checks.text(new HallSheets(), 0, text + "!c=").mark(0), -180);
    }

    private static void markRefusals() {
        EDGES.sentence(31, "-1, -2, -11, -12, -100 less a FAULT, in this order");
        HallSheets x = Edges.halls(1);
        for (int d : new int[] {-1, 8, LEAST, MOST}) {
            due("mark(" + d + ")", x.mark(d), -1);
        }
        x.keep(1, 1, 0);
        Checks.numbers(x, 2, 1, 'A', ':', 'c', '=', '0');
        Checks.numbers(x, 3, 2, 'A', ':', 'c', '=', '0');
        due("nothing", x.mark(0), -11);
        due("a SHEET", x.mark(1), -12);
        due("shorts", x.mark(2), -12);
        due("ints", x.mark(3), -12);
        due("FAULT 0", Checks.text(x, 4, "a:c=0").mark(4), -100);
        due("FAULT 0, an empty ROW", Checks.text(x, 4, "").mark(4), -100);
        due("FAULT 5, the size", Checks.text(x, 4, "A:c=!").mark(4), -104);
        due("none of these is a MARK", x.count(2), 0);
        Checks.text(x, 5, "A:c=0");
        for (int m = 0; m < 10; m++) {
            due("MARK " + m, x.mark(5), m);
        }
        due("full", x.mark(5), -2);
        due("-1 ahead of -2", x.mark(-1), -1);
        due("-1 ahead of -2", x.mark(8), -1);
        due("-2 ahead of -11", x.mark(0), -2);
        due("-2 ahead of -12, a SHEET", x.mark(1), -2);
        due("-2 ahead of -12, shorts", x.mark(2), -2);
        due("-2 ahead of a FAULT", x.mark(4), -2);
        due("fault() isn't refused by it", x.fault(4), 4);
        due("fault() isn't refused by it", x.fault(5), -4);
        due("fault() isn't refused by it", x.fault(0), -11);
    }

    private static void mostMarks() {
        EDGES.sentence(31, "MARKS are numbered, 10 at most");
        HallSheets x = Edges.written(Edges.repeated(10, 9), Edges.repeated(10, 9));
        for (int m = 0; m < 10; m++) {
            due("MARK " + m, Checks.text(x, m % 8, (char) ('A' + m) + ":h=" + m).mark(m % 8), m);
            due("count(2)", x.count(2), m + 1);
        }
        due("an 11th", Checks.text(x, 0, "K:h<99").mark(0), -2);
        due("count(2)", x.count(2), 10);
        for (int h = 0; h < 10; h++) {
            due("marked(" + h + ")", x.marked(h), 'A' + h);
        }
        due("said('K', 0)", x.said('K', 0), 0);
    }

    private static void ownTexts() {
        EDGES.sentence(31, "The text in SHELF d is a MARK: as it was then");
        HallSheets x = Edges.written(new int[] {9}, new int[] {9});
        Checks.text(x, 0, "A:c=9");
        due("mark(0)", x.mark(0), 0);
        x.put(0, 0, 'B');
        due("its text stays", x.marked(0), 'A');
        due("the same SHELF anew", Checks.text(x, 0, "C:c=8").mark(0), 1);
        due("its text stays", x.marked(0), 'A');
        x.keep(0, 0, 0);
        due("without the SHELF", x.marked(0), 'A');
    }

    private static void whichMarked() {
        EDGES.sentence(32, "-4 (MISSING, too). -1.");
        HallSheets x = Edges.halls(2);
        Checks.text(x, 0, "A:c<9999");
        x.send(0);
        due("no MARKS", x.marked(0), -4);
        x.mark(0);
        due("it holds", x.marked(0), 'A');
        due("a MISSING one", x.marked(1), -4);
        for (int h : new int[] {-1, 2, 30, LEAST, MOST}) {
            due("marked(" + h + ")", x.marked(h), -1);
        }
        due("no HALLS", Checks.text(new HallSheets(), 0, "A:c=0").marked(0), -1);
        x.send(-1);
        due("then WRITTEN", x.marked(1), 'A');
        x.row(1, 0, 0);
        x.hear(1, 1);
        due("MISSING again", x.marked(0), -4);
    }

    private static void firstThatHolds() {
        EDGES.sentence(32, "the NAME of the first one that holds");
        HallSheets x = Edges.written(Edges.repeated(4, 9), Edges.repeated(4, 9));
        for (String text : new String[] {"Z:h=1", "A:h<2", "M:h<3", "Z:h=0"}) {
            Checks.text(x, 0, text).mark(0);
        }
        long[] names = {'A', 'Z', 'M', -4};
        for (int h = 0; h < 4; h++) {
            due("marked(" + h + ")", x.marked(h), names[h]);
        }
        HallSheets y = Edges.written(Edges.repeated(4, 9), Edges.repeated(4, 9));
        Checks.text(y, 0, "A:!(h=0|h=2)|1=2").mark(0);
        Checks.text(y, 0, "B:h=2|h=3").mark(0);
        long[] others = {-4, 'A', 'B', 'A'};
        for (int h = 3; h >= 0; h--) {
            due("marked(" + h + "), each HALL anew", y.marked(h), others[h]);
        }
    }

    /** Whether a TEST holds of HALL 29: l 999, t 1, k 5, d 3, e 100, w 1; 9999, 9999 are WRITTEN. */
    private static int holds(String test) {
        HallSheets x = Edges.halls(29);
        x.hall(999, 1530, 100);
        x.watch(29, true);
        Edges.write(x, Edges.repeated(30, 9999), Edges.repeated(30, 9999));
        due("mark of " + test, Checks.text(x, 0, "Q:" + test).mark(0), 0);
        return x.marked(29) == 'Q' ? 1 : 0;
    }

    private static void all(int due, String... tests) {
        for (String test : tests) {
            due(test, holds(test), due);
        }
    }

    private static void comparisons() {
        EDGES.sentence(32, "SUM, one of < > =, SUM");
        all(1, "5<6", "5=5", "6>5", "0<1", "0=0", "1>0");
        all(0, "5<5", "5>5", "6<5", "5>6", "5=6", "6=5");
        all(1, "0-1<0", "0>0-1", "0-1=0-1", "0-9999<9999");
    }

    private static void machineNumbers() {
        EDGES.sentence(32, "% the rest; by 0: 0");
        all(1, "5%0=0", "0%0=0", "7*0%0=0", "5%1=0", "5%5=0", "5%6=5", "0%5=0", "c%0+1=1", "9999%10=9", "9%0*5=0", "9%0%5=0");
        all(0, "5%0=5", "5%0=1");
        EDGES.sentence(32, "All in 32 bits, as machines do");
        all(1, "8192*8192*32-1>0", "8192*8192*32<0", "8192*8192*64=0", "8192*8192*32=0-8192*8192*32", "8192*8192*32-1+1<0",
            "0-8192*8192*32<0", "0-8192*8192*32-1>0", "8192*8192*32%10=0-8", "8192*8192*32%1=0", "9999*9999*42<0",
            "9999*9999*43>0", "9999*9999*21>0", "9999*9999*22<0", "c*o*22<0", "8192*8192*32<8192*8192*32-1");
        EDGES.sentence(32, "and any of + PRODUCT, - PRODUCT behind it, from the left");
        all(1, "9-3-2=4", "9-3+2=8", "2+3*4=14", "2*3+4=10", "9%5*2=8", "2*9%5=3", "100*10%7*3=18", "9-3*2=3", "1-1*0=1");
        all(0, "9-3-2=8", "9-3+2=4", "2+3*4=20", "9%5*2=9", "2*9%5=8");
    }

    private static void joints() {
        EDGES.sentence(32, "OR: AND, or AND | OR. AND: TEST, or TEST & AND. TEST: ! TEST; ( OR )");
        for (int bits = 0; bits < 8; bits++) {
            String a = (bits & 1) != 0 ? "1=1" : "1=2";
            String b = (bits & 2) != 0 ? "1<2" : "2<1";
            String c = (bits & 4) != 0 ? "2>1" : "1>2";
            boolean p = (bits & 1) != 0;
            boolean q = (bits & 2) != 0;
            boolean r = (bits & 4) != 0;
            due(bits + " a|b&c", holds(a + "|" + b + "&" + c), p || q && r ? 1 : 0);
            due(bits + " a&b|c", holds(a + "&" + b + "|" + c), p && q || r ? 1 : 0);
            due(bits + " (a|b)&c", holds("(" + a + "|" + b + ")&" + c), (p || q) && r ? 1 : 0);
            due(bits + " a&(b|c)", holds(a + "&(" + b + "|" + c + ")"), p && (q || r) ? 1 : 0);
            due(bits + " !a&b|c", holds("!" + a + "&" + b + "|" + c), !p && q || r ? 1 : 0);
            due(bits + " !(a&b)|c", holds("!(" + a + "&" + b + ")|" + c), !(p && q) || r ? 1 : 0);
            due(bits + " !(a|!(b&!c))", holds("!(" + a + "|!(" + b + "&!" + c + "))"), !(p || !(q && !r)) ? 1 : 0);
            due(bits + " a|b|c", holds(a + "|" + b + "|" + c), p || q || r ? 1 : 0);
            due(bits + " a&b&c", holds(a + "&" + b + "&" + c), p && q && r ? 1 : 0);
            due(bits + " (a|b)&(c|b)", holds("(" + a + "|" + b + ")&(" + c + "|" + b + ")"), (p || q) && (r || q) ? 1 : 0);
            due(bits + " !(a)&!(b)", holds("!(" + a + ")&!(" + b + ")"), !p && !q ? 1 : 0);
            due(bits + " (a)|(b)&(c)", holds("(" + a + ")|(" + b + ")&(" + c + ")"), p || q && r ? 1 : 0);
            due(bits + " !!a", holds("!!" + a), p ? 1 : 0);
            due(bits + " !!!a", holds("!!!" + a), p ? 0 : 1);
            due(bits + " 8 deep", holds("((((((!((" + a + "|" + b + "))&" + c + "))))))"), !(p || q) && r ? 1 : 0);
        }
    }

    /** At each depth an AND or an OR, ahead of what stands deeper or behind it. */
    private static void deepJoints() {
        EDGES.sentence(32, "( at most 8 deep, an AND or an OR in each");
        for (int bits = 0; bits < 1 << 8; bits++) {
            for (int ors : new int[] {0x55, 0xaa, 0x33, 0xcc, 0x0f, 0xd6, 0x69}) {
                deep(bits, ors, false, true);
                deep(bits, ors, true, (bits & 1) == 0);
            }
        }
        EDGES.sentence(32, "OR: AND, or AND | OR: three in ( )");
        for (int bits = 0; bits < 8; bits++) {
            String a = (bits & 1) != 0 ? "1=1" : "1=2";
            String b = (bits & 2) != 0 ? "1<2" : "2<1";
            String c = (bits & 4) != 0 ? "2>1" : "1>2";
            due("(" + a + "|" + b + "|" + c + ")", holds("(" + a + "|" + b + "|" + c + ")"), bits != 0 ? 1 : 0);
            due("!(" + a + "&" + b + "&" + c + ")", holds("!(" + a + "&" + b + "&" + c + ")"), bits != 7 ? 1 : 0);
            due("1=2|(" + a + "|(" + b + "|" + c + "|1=2))&1=1",
                holds("1=2|(" + a + "|(" + b + "|" + c + "|1=2))&1=1"), bits != 0 ? 1 : 0);
        }
    }

    /** Eight ( , of which each bit tells a TEST beside the next one, and whether an OR joins them. */
    private static void deep(int bits, int ors, boolean ahead, boolean innermost) {
        boolean holds = innermost;
        String text = holds ? "1=1" : "1=2";
        for (int depth = 0; depth < 8; depth++) {
            boolean is = (bits >> depth & 1) != 0;
            boolean or = (ors >> depth & 1) != 0;
            String other = is ? "1<2" : "1>2";
            String joint = or ? "|" : "&";
            text = "(" + (ahead ? other + joint + text : text + joint + other) + ")";
            holds = or ? holds || is : holds && is;
        }
        due(text, holds(text), holds ? 1 : 0);
    }

    private static void eightyBytes() {
        EDGES.sentence(32, "a NUMBER of 1 to 4 digits: the last of 80 bytes");
        String[] ends = {"c<12", "c>8888", "12>c", "5=c"};
        boolean[][] due = {{true, false}, {false, true}, {true, false}, {false, true}};
        for (int i = 0; i < ends.length; i++) {
            String end = ends[i];
            StringBuilder text = new StringBuilder("A:");
            while (text.length() + end.length() < 80) {
                text.append('!');
            }
            HallSheets x = Edges.written(new int[] {5, 9999}, new int[] {0, 0});
            due(end, Checks.text(x, 0, text.append(end).toString()).mark(0), 0);
            due(text + " of CAME 5", x.marked(0), due[i][0] ? 'A' : -4);
            due(text + " of CAME 9999", x.marked(1), due[i][1] ? 'A' : -4);
        }
        EDGES.sentence(32, "MARKS of other sizes than those ahead of them");
        HallSheets y = Edges.written(new int[] {5, 50, 500, 51}, new int[] {1, 1, 1, 1});
        for (String text : new String[] {"A:c=5", "B:c=50&o=1&l=999", "C:c=500", "D:c=5|c=51"}) {
            Checks.text(y, 0, text).mark(0);
        }
        for (int h = 0; h < 4; h++) {
            due("marked(" + h + ")", y.marked(h), 'A' + h);
        }
    }

    private static void fields() {
        EDGES.sentence(32, "a FIELD of a HALL");
        all(1, "c=9999", "o=9999", "l=999", "t=1", "k=5", "d=3", "e=100", "s=100", "w=1", "h=29");
        HallSheets x = new HallSheets();
        x.hall(1, 0, 0);
        x.send(0);
        Checks.text(x, 0, "A:c=0&o=0&l=1&t=0&k=0&d=0&e=0&s=0&w=0&h=0");
        due("mark(0)", x.mark(0), 0);
        due("the least of each", x.marked(0), 'A');
        EDGES.sentence(32, "s SHARE: 0 if CAME is 0; c CAME, o OURS: WRITTEN");
        HallSheets y = Edges.hall(999, 500, 100);
        Edges.write(y, new int[] {0}, new int[] {0});
        Checks.text(y, 0, "A:s=0&c=0&o=0").mark(0);
        due("marked(0)", y.marked(0), 'A');
        y.watch(0, true);
        due("not by TRULY", Checks.text(y, 0, "B:w=1&c=0").mark(0), 1);
        due("the first still", y.marked(0), 'A');
        Edges.write(y, new int[] {3}, new int[] {2});
        due("66 of 3", Checks.text(y, 0, "C:s=66").mark(0), 2);
        due("marked(0)", y.marked(0), 'C');
    }

    private static void whichSaid() {
        EDGES.sentence(33, "have a MARK of a NAME (its byte), OURS of them (what 1). -1.");
        HallSheets x = Edges.written(new int[] {50, 60, 70}, new int[] {5, 6, 7});
        Checks.text(x, 0, "A:h=0").mark(0);
        Checks.text(x, 0, "Z:h=2").mark(0);
        for (int name : new int[] {'A' - 1, 'Z' + 1, 'a', 'z', 0, -1, -4, 'A' + 256, LEAST, MOST}) {
            due("said(" + name + ", 0)", x.said(name, 0), -1);
            due("said(" + name + ", 1)", x.said(name, 1), -1);
        }
        for (int what : new int[] {-1, 2, LEAST, MOST}) {
            due("said('A', " + what + ")", x.said('A', what), -1);
        }
        due("said('A', 0)", x.said('A', 0), 1);
        due("said('A', 1)", x.said('A', 1), 5);
        due("said('Z', 0)", x.said('Z', 0), 1);
        due("said('Z', 1)", x.said('Z', 1), 7);
        due("said('B', 0)", x.said('B', 0), 0);
        due("said('Y', 1)", x.said('Y', 1), 0);
        due("no HALLS, no MARKS", new HallSheets().said('Z', 1), 0);
    }

    private static void said() {
        EDGES.sentence(33, "How many HALLS: without MISSING ones, each by its first MARK");
        HallSheets x = Edges.written(Edges.repeated(30, 9999), Edges.repeated(30, 9999));
        Checks.text(x, 0, "B:h=29").mark(0);
        Checks.text(x, 0, "A:h<99").mark(0);
        Checks.text(x, 0, "B:h<99").mark(0);
        due("said('A', 0)", x.said('A', 0), 29);
        due("said('A', 1)", x.said('A', 1), 29 * 9999);
        due("said('B', 0)", x.said('B', 0), 1);
        due("said('B', 1)", x.said('B', 1), 9999);
        Edges.write(x, new int[] {-1, 5}, new int[] {5, 5});
        due("one is WRITTEN", x.said('A', 0), 1);
        due("one is WRITTEN", x.said('A', 1), 5);
        due("HALL 29 is MISSING", x.said('B', 0), 0);
        due("HALL 29 is MISSING", x.said('B', 1), 0);
    }
}

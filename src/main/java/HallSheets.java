import java.util.Arrays;
import java.util.NoSuchElementException;

/** Halls that tell who came and chose, and what their figures give away. */
public final class HallSheets {
    private static final int MOST_HALLS = 30;
    private static final int DISTRICTS = 4;
    private static final int KINS = 6;
    private static final int MOST_MARKS = 10;
    private static final int MOST_ELEMENTS = 80;
    private static final int SHELVES = 8;
    private static final int MOST_WRITTEN = 9999;
    private static final int MOST_SENT_UP = 99999;
    private static final int MOST_LANDS = 50;
    private static final int MOST_BUDGET = 300;
    private static final int HIGH_SHARE = 95;

    private static final int NO_REFUSAL = 0;
    private static final int NO_SUCH = -1;
    private static final int NO_ROOM = -2;
    private static final int CANNOT_BE = -3;
    private static final int NONE = -4;
    private static final int BELOW_FAULT = -100;
    private static final int NOTHING_HELD = -11;
    private static final int OTHER_KIND = -12;
    private static final int NO_PLACE = -13;
    private static final int SIZE_BELOW_0 = -14;
    private static final int NO_FAILURE = -15;
    private static final int FAR_BELOW = -1000000000;

    private final Country now = new Country();
    private final Country then = new Country();
    /** LANDS in mind are made here, so that none of what stands is touched. */
    private final Country mind = new Country();
    private boolean imageTaken;
    private final Shelf[] shelves = new Shelf[SHELVES];
    private final Watchers watchers = new Watchers();
    private final Recount recount = new Recount();
    private final MarkGrammar grammar = new MarkGrammar();

    public HallSheets() {
        for (int d = 0; d < SHELVES; d++) {
            shelves[d] = new Shelf();
        }
    }

    // ---- halls, sheets.

    public int hall(int list, int told, int earlier) {
        if (!within(list, 1, 999) || !within(told, 0, 1999) || !within(earlier, 0, 100)) {
            return NO_SUCH;
        }
        if (told / 100 % 10 >= KINS || told / 10 % 10 >= DISTRICTS || told % 10 != 0) {
            return NO_SUCH;
        }
        return now.addHall(list, told, earlier);
    }

    public int truly(int hall, int came, int ours) {
        if (!now.isHall(hall)) {
            return NO_SUCH;
        }
        Hall it = now.halls[hall];
        if (!within(came, 0, it.list) || !within(ours, 0, came)) {
            return NO_SUCH;
        }
        int before = it.trueCame;
        it.trueCame = came;
        it.trueOurs = ours;
        return before;
    }

    public int sheet(int hall, int kind, int number) {
        if (!now.isHall(hall) || !within(kind, 0, Sheet.COPIED) || !within(number, 0, 999)) {
            return NO_SUCH;
        }
        Sheet its = now.halls[hall].sheet;
        int before = its.kind;
        its.kind = kind;
        its.number = number;
        return before;
    }

    public int set(int what, int n) {
        if (!within(what, 0, Country.LAWS - 1) || !within(n, 0, Country.mostOfLaw(what))) {
            return NO_SUCH;
        }
        int before = now.laws[what];
        now.laws[what] = n;
        return before;
    }

    public int of(int hall, int what) {
        if (!now.isHall(hall)) {
            return NO_SUCH;
        }
        Hall it = now.halls[hall];
        switch (what) {
            case 0: return it.list;
            case 1: return it.trueCame;
            case 2: return it.trueOurs;
            case 3: return it.toldCame();
            case 4: return it.toldOurs(now.laws[Country.LIKED]);
            case 5: return it.missing ? NONE : it.came;
            case 6: return it.missing ? NONE : it.ours;
            case 7: return it.missing ? NONE : it.share();
            case 8: return it.sheet.kind;
            default: return NO_SUCH;
        }
    }

    public int send(int hall) {
        if (hall != -1 && !now.isHall(hall)) {
            return NO_SUCH;
        }
        int liked = now.laws[Country.LIKED];
        for (int h = 0; h < now.hallCount; h++) {
            if (hall == -1 || hall == h) {
                Hall it = now.halls[h];
                it.write(it.toldCame(), it.toldOurs(liked));
            }
        }
        return now.writtenCount();
    }

    public int hear(int c, int o) {
        int refusal = rowsRefusal(c, o);
        if (refusal != NO_REFUSAL) {
            return refusal;
        }
        for (int h = 0; h < now.hallCount; h++) {
            hearOne(now.halls[h], shelves[c], shelves[o], h);
        }
        return now.writtenCount();
    }

    private static void hearOne(Hall it, Shelf cameRow, Shelf oursRow, int place) {
        if (cameRow.tellsNumber(place) && oursRow.tellsNumber(place)) {
            int came = heldTo(cameRow.elements[place], 0, MOST_WRITTEN);
            it.write(came, heldTo(oursRow.elements[place], 0, came));
        } else {
            it.missing = true;
        }
    }

    // ---- figures.

    public int figures(int figure, int what) {
        if (!within(figure, 0, 9) || !within(what, 0, 1)) {
            return NO_SUCH;
        }
        return now.figureCount(figure, what == 1);
    }

    public long odds(int figure) {
        if (!within(figure, 0, 9)) {
            return NO_SUCH;
        }
        return now.rowsWithFigure(figure);
    }

    public int round(int p) {
        if (p != -1 && (!within(p, 0, 100) || p % 5 != 0)) {
            return NO_SUCH;
        }
        return now.roundCount(p);
    }

    public int may(int n, int what) {
        if (what == 0 && within(n, 1, 999)) {
            return roundChoices(n);
        }
        if (what == 1 && within(n, 0, 100)) {
            return leastCame(n);
        }
        return NO_SUCH;
    }

    private static int roundChoices(int came) {
        int choices = 0;
        for (int ours = 0; ours <= came; ours++) {
            if (isRound(came, ours)) {
                choices++;
            }
        }
        return choices;
    }

    private static int leastCame(int share) {
        for (int came = 1; came < 100; came++) {
            if (came * share % 100 == 0) {
                return came;
            }
        }
        return 100;
    }

    // ---- clouds, halls that truly all.

    public int middle(int town) {
        if (!within(town, 0, 1)) {
            return NO_SUCH;
        }
        return now.middleShare(town);
    }

    public int left(int hall) {
        if (!now.isHall(hall)) {
            return FAR_BELOW + NO_SUCH;
        }
        if (now.halls[hall].missing) {
            return FAR_BELOW + NONE;
        }
        return now.shareFromMiddle(now.halls[hall]);
    }

    public int trulyAll(int hall) {
        if (!now.isHall(hall)) {
            return NO_SUCH;
        }
        Hall it = now.halls[hall];
        if (it.missing || it.came != it.list || it.ours != it.list) {
            return NONE;
        }
        int signs = it.earlier >= HIGH_SHARE ? 1 : 0;
        return now.hasHighKin(hall) ? signs + 1 : signs;
    }

    public int watch(int hall, boolean is) {
        if (!now.isHall(hall)) {
            return NO_SUCH;
        }
        Hall it = now.halls[hall];
        if (it.watched == is) {
            return 0;
        }
        it.watched = is;
        return 1;
    }

    public int cost() {
        watchers.look(now);
        if (!watchers.areSome()) {
            return FAR_BELOW + NONE;
        }
        return watchers.worth();
    }

    public int ways(int what) {
        if (!within(what, 0, 1)) {
            return NO_SUCH;
        }
        watchers.look(now);
        if (!watchers.areFew()) {
            return CANNOT_BE;
        }
        if (!watchers.areSome()) {
            return NONE;
        }
        return watchers.choices(what == 1);
    }

    // ---- sums, what is untrue.

    public int up(int district, int came, int ours) {
        if (!isDistrict(district) || !within(came, 0, MOST_SENT_UP) || !within(ours, 0, MOST_SENT_UP)) {
            return NO_SUCH;
        }
        int answer = now.told[district] ? 0 : 1;
        now.told[district] = true;
        now.toldCame[district] = came;
        now.toldOurs[district] = ours;
        return answer;
    }

    public int down(int district) {
        if (!isDistrict(district)) {
            return NO_SUCH;
        }
        int answer = now.told[district] ? 1 : 0;
        now.told[district] = false;
        return answer;
    }

    public int sum(int district, int what) {
        if (!isDistrict(district)) {
            return FAR_BELOW + NO_SUCH;
        }
        switch (what) {
            case 0: return now.writtenCame(district);
            case 1: return now.writtenOurs(district);
            case 2: return now.sentCame(district);
            case 3: return now.sentOurs(district);
            case 4: return now.sentCame(district) - now.writtenCame(district);
            case 5: return now.sentOurs(district) - now.writtenOurs(district);
            default: return FAR_BELOW + NO_SUCH;
        }
    }

    public int won() {
        return now.sentMargin() > 0 ? 1 : 0;
    }

    public int helped() {
        return now.sentMargin() - now.writtenMargin();
    }

    public int untrue(int hall, int what) {
        if (hall != -1 && !now.isHall(hall) || !within(what, 0, 1)) {
            return NO_SUCH;
        }
        if (hall == -1) {
            return what == 0 ? now.allUntrue() : now.allMustBe();
        }
        Hall it = now.halls[hall];
        if (it.missing) {
            return NONE;
        }
        return what == 0 ? it.untruth() : it.mustBe();
    }

    public int turn() {
        return now.fewestTurns();
    }

    public int again(int budget, int what) {
        if (!within(budget, 0, MOST_BUDGET) || !within(what, 0, 1)) {
            return NO_SUCH;
        }
        recount.plan(now, budget);
        return what == 0 ? recount.best[budget] : recount.chosen[budget];
    }

    // ---- measures, lands.

    public int measure(int what) {
        if (!within(what, 0, Country.MEASURES - 1)) {
            return NO_SUCH;
        }
        return now.measured(what);
    }

    public int odd(int what, int n, int z) {
        if (!within(what, 0, Country.MEASURES - 1) || !within(n, 1, MOST_LANDS)) {
            return NO_SUCH;
        }
        int asNow = now.measured(what);
        int asOdd = 0;
        mind.copyFrom(now);
        for (int i = 0; i < n; i++) {
            mind.becomeHonest(z + i);
            mind.writeTruth();
            if (mind.measured(what) >= asNow) {
                asOdd++;
            }
        }
        return asOdd;
    }

    public int land(int z) {
        return now.becomeHonest(z);
    }

    // ---- marks.

    public int fault(int d) {
        int refusal = textRefusal(d);
        if (refusal != NO_REFUSAL) {
            return refusal;
        }
        int place = grammar.faultOf(shelves[d].elements, shelves[d].size);
        return place == MarkGrammar.NO_FAULT ? NONE : place;
    }

    public int mark(int d) {
        if (!isShelf(d)) {
            return NO_SUCH;
        }
        if (now.markCount >= MOST_MARKS) {
            return NO_ROOM;
        }
        int refusal = textRefusal(d);
        if (refusal != NO_REFUSAL) {
            return refusal;
        }
        int place = grammar.faultOf(shelves[d].elements, shelves[d].size);
        if (place != MarkGrammar.NO_FAULT) {
            return BELOW_FAULT - place;
        }
        return now.addMark(shelves[d].elements, shelves[d].size);
    }

    public int marked(int hall) {
        if (!now.isHall(hall)) {
            return NO_SUCH;
        }
        return now.nameOf(hall);
    }

    public int said(int name, int what) {
        if (!within(name, 'A', 'Z') || !within(what, 0, 1)) {
            return NO_SUCH;
        }
        int answer = 0;
        for (int h = 0; h < now.hallCount; h++) {
            if (now.nameOf(h) == name) {
                answer += what == 0 ? 1 : now.halls[h].ours;
            }
        }
        return answer;
    }

    // ---- the image, what is told.

    public int image() {
        then.copyFrom(now);
        imageTaken = true;
        return now.hallCount;
    }

    public int restore() {
        if (!imageTaken) {
            return CANNOT_BE;
        }
        now.copyFrom(then);
        return now.hallCount;
    }

    public int count(int what) {
        switch (what) {
            case 0: return now.hallCount;
            case 1: return now.hallCount - now.writtenCount();
            case 2: return now.markCount;
            case 3: return now.allLists();
            case 4: return now.watchedCount();
            case 5: return now.allWrittenCame();
            case 6: return now.allWrittenOurs();
            default: return NO_SUCH;
        }
    }

    // ---- shelves.

    public int keep(int d, int what, int k) {
        if (!isShelf(d)) {
            return NO_SUCH;
        }
        if (what == 0) {
            shelves[d].held = Shelf.NOTHING;
            return 0;
        }
        if (what != 1 || !now.isHall(k)) {
            return NO_SUCH;
        }
        shelves[d].holdSheet(k, now.halls[k]);
        return 0;
    }

    public int row(int d, int sort, int n) {
        if (!isShelf(d) || !within(sort, 0, Shelf.INTS) || n > MOST_ELEMENTS) {
            return NO_SUCH;
        }
        if (n < 0) {
            return SIZE_BELOW_0;
        }
        shelves[d].holdRow(sort, n);
        return 0;
    }

    public int put(int d, int i, int v) {
        int refusal = rowRefusal(d);
        if (refusal != NO_REFUSAL) {
            return refusal;
        }
        Shelf it = shelves[d];
        if (!it.hasPlace(i)) {
            return NO_PLACE;
        }
        it.elements[i] = it.lowestBits(v);
        return 0;
    }

    public long element(int d, int i) throws IllegalArgumentException, IllegalStateException {
        if (!isShelf(d)) {
            throw new IllegalArgumentException("no such shelf");
        }
        Shelf it = shelves[d];
        if (it.held != Shelf.ROW || !it.hasPlace(i)) {
            throw new IllegalStateException("no row, or no such place");
        }
        return it.elements[i];
    }

    public int copy(int d, int i, int e, int j, int n) {
        int refusal = rowsRefusal(d, e);
        if (refusal != NO_REFUSAL) {
            return refusal;
        }
        if (!shelves[d].hasPlaces(i, n) || !shelves[e].hasPlaces(j, n)) {
            return NO_PLACE;
        }
        System.arraycopy(shelves[d].elements, i, shelves[e].elements, j, n);
        return n;
    }

    public int weight(int d) {
        int refusal = sheetRefusal(d);
        return refusal != NO_REFUSAL ? refusal : shelves[d].sheet.heaviness();
    }

    public int toss(int d) {
        int refusal = sheetRefusal(d);
        return refusal != NO_REFUSAL ? refusal : shelves[d].caughtFailure();
    }

    // ---- what several calls ask.

    private static boolean within(int n, int least, int most) {
        return n >= least && n <= most;
    }

    private static int heldTo(int n, int least, int most) {
        return Math.max(least, Math.min(most, n));
    }

    private static int shareOf(int came, int ours) {
        return came == 0 ? 0 : ours * 100 / came;
    }

    private static boolean isRound(int came, int ours) {
        return came > 0 && ours * 100 % came == 0 && ours * 100 / came % 5 == 0;
    }

    private static boolean isDistrict(int district) {
        return within(district, 0, DISTRICTS - 1);
    }

    private static boolean isShelf(int d) {
        return within(d, 0, SHELVES - 1);
    }

    private int sheetRefusal(int d) {
        if (!isShelf(d)) {
            return NO_SUCH;
        }
        if (shelves[d].held == Shelf.NOTHING) {
            return NOTHING_HELD;
        }
        return shelves[d].held == Shelf.SHEET ? NO_REFUSAL : OTHER_KIND;
    }

    private int rowRefusal(int d) {
        return rowsRefusal(d, d);
    }

    private int rowsRefusal(int d, int e) {
        if (!isShelf(d) || !isShelf(e)) {
            return NO_SUCH;
        }
        if (shelves[d].held == Shelf.NOTHING || shelves[e].held == Shelf.NOTHING) {
            return NOTHING_HELD;
        }
        if (shelves[d].held != Shelf.ROW || shelves[e].held != Shelf.ROW) {
            return OTHER_KIND;
        }
        return shelves[d].sort == shelves[e].sort ? NO_REFUSAL : OTHER_KIND;
    }

    private int textRefusal(int d) {
        int refusal = rowRefusal(d);
        if (refusal != NO_REFUSAL) {
            return refusal;
        }
        return shelves[d].sort == Shelf.BYTES ? NO_REFUSAL : OTHER_KIND;
    }

    /** A KIND and a NUMBER: the KINDS differ in what they tell, weigh and fail with. */
    private static final class Sheet {
        static final int PLAIN = 0;
        static final int TRUE = 1;
        static final int ROUNDED = 2;
        static final int MADE = 3;
        static final int STUFFED = 4;
        static final int TURNED = 5;
        static final int BOSSED = 6;
        static final int COPIED = 7;

        private static final int PLAIN_HEAVINESS = 10;
        private static final int TRUE_HEAVINESS = PLAIN_HEAVINESS + 1;

        int kind;
        int number;

        void copyFrom(Sheet other) {
            kind = other.kind;
            number = other.number;
        }

        int tellsCame(int came, int list) {
            switch (kind) {
                case ROUNDED: return Math.min(toTen(came), list);
                case STUFFED: return came + number;
                case BOSSED: return list;
                default: return came;
            }
        }

        int tellsOurs(int came, int ours, int list, int liked) {
            switch (kind) {
                case ROUNDED: return Math.min(toTen(ours), tellsCame(came, list));
                case MADE: return madeOurs(came, liked);
                case STUFFED: return ours + number;
                case TURNED: return Math.min(ours + number, came);
                case BOSSED: return list;
                case COPIED: return copiedOurs(came, ours);
                default: return ours;
            }
        }

        private static int toTen(int n) {
            return (n + 5) / 10 * 10;
        }

        private int madeOurs(int came, int liked) {
            int made = Math.min(came * number / 100, came);
            int asLiked = made / 10 * 10 + liked;
            return asLiked > came ? made : asLiked;
        }

        private static int copiedOurs(int came, int ours) {
            int swapped = ours / 100 * 100 + ours % 10 * 10 + ours / 10 % 10;
            return swapped > came ? ours : swapped;
        }

        int heaviness() {
            switch (kind) {
                case TRUE: return TRUE_HEAVINESS;
                case ROUNDED: return PLAIN_HEAVINESS + 5;
                case MADE: return 2 * PLAIN_HEAVINESS + number;
                case STUFFED: return TRUE_HEAVINESS + number;
                case TURNED: return PLAIN_HEAVINESS + 2 * number;
                case BOSSED: return 2 * TRUE_HEAVINESS;
                case COPIED: return PLAIN_HEAVINESS - 3;
                default: return PLAIN_HEAVINESS;
            }
        }

        void fail() {
            switch (kind) {
                case MADE: throw new IllegalArgumentException("made up");
                case STUFFED: throw new UnsupportedOperationException("stuffed");
                case COPIED: throw new NoSuchElementException("copied with a slip");
                case BOSSED: return;
                default: throw new IllegalStateException("a sheet");
            }
        }
    }

    /** A HALL: what it is, what TRULY was, its SHEET, and what is WRITTEN of it. */
    private static final class Hall {
        private static final int MOST_FIGURES = 4;

        final Sheet sheet = new Sheet();
        int list;
        int town;
        int kin;
        int district;
        int earlier;
        int trueCame;
        int trueOurs;
        boolean watched;
        boolean missing;
        int came;
        int ours;

        /** A place of HALLS that a RESTORED IMAGE left free may hold an older one still. */
        void begin(int itsList, int told, int itsEarlier) {
            list = itsList;
            town = told / 1000;
            kin = told / 100 % 10;
            district = told / 10 % 10;
            earlier = itsEarlier;
            trueCame = 0;
            trueOurs = 0;
            sheet.kind = Sheet.PLAIN;
            sheet.number = 0;
            watched = false;
            missing = true;
        }

        void copyFrom(Hall other) {
            list = other.list;
            town = other.town;
            kin = other.kin;
            district = other.district;
            earlier = other.earlier;
            trueCame = other.trueCame;
            trueOurs = other.trueOurs;
            sheet.copyFrom(other.sheet);
            watched = other.watched;
            missing = other.missing;
            came = other.came;
            ours = other.ours;
        }

        void write(int cameWritten, int oursWritten) {
            missing = false;
            came = cameWritten;
            ours = oursWritten;
        }

        int toldCame() {
            return sheet.tellsCame(trueCame, list);
        }

        int toldOurs(int liked) {
            return sheet.tellsOurs(trueCame, trueOurs, list, liked);
        }

        int share() {
            return shareOf(came, ours);
        }

        int lastFigure() {
            return missing || ours < 100 ? NONE : ours % 10;
        }

        int firstFigure() {
            if (missing || ours < 1) {
                return NONE;
            }
            int first = ours;
            for (int step = 0; step < MOST_FIGURES && first >= 10; step++) {
                first = first / 10;
            }
            return first;
        }

        int untruth() {
            return Math.max(Math.abs(came - trueCame), Math.abs(ours - trueOurs));
        }

        int mustBe() {
            return Math.max(0, came - list);
        }

        int margin() {
            return 2 * ours - came;
        }

        int marginFall() {
            return margin() - (2 * trueOurs - trueCame);
        }
    }

    /** All that there is, but SHELVES and THE IMAGE: the IMAGE and LANDS in mind are such, too. */
    private static final class Country {
        static final int LIKED = 0;
        static final int BASES = 1;
        static final int SPREAD = 3;
        static final int CHOICES = 4;
        static final int LAWS = CHOICES + KINS;
        static final int MEASURES = 5;
        private static final int MOST_ODDS_HALLS = 18;

        final Hall[] halls = new Hall[MOST_HALLS];
        int hallCount;
        final int[] laws = {0, 50, 50, 10, 50, 50, 50, 50, 50, 50};
        final boolean[] told = new boolean[DISTRICTS];
        final int[] toldCame = new int[DISTRICTS];
        final int[] toldOurs = new int[DISTRICTS];
        final int[][] markTexts = new int[MOST_MARKS][MOST_ELEMENTS];
        final int[] markSizes = new int[MOST_MARKS];
        int markCount;
        private final MarkTruth markTruth = new MarkTruth();
        private final int[] figureCounts = new int[10];
        private final int[] inOrder = new int[MOST_HALLS];

        Country() {
            for (int h = 0; h < MOST_HALLS; h++) {
                halls[h] = new Hall();
            }
        }

        void copyFrom(Country other) {
            hallCount = other.hallCount;
            for (int h = 0; h < hallCount; h++) {
                halls[h].copyFrom(other.halls[h]);
            }
            System.arraycopy(other.laws, 0, laws, 0, LAWS);
            for (int district = 0; district < DISTRICTS; district++) {
                told[district] = other.told[district];
                toldCame[district] = other.toldCame[district];
                toldOurs[district] = other.toldOurs[district];
            }
            markCount = other.markCount;
            for (int m = 0; m < markCount; m++) {
                markSizes[m] = other.markSizes[m];
                System.arraycopy(other.markTexts[m], 0, markTexts[m], 0, MOST_ELEMENTS);
            }
        }

        static int mostOfLaw(int law) {
            switch (law) {
                case LIKED: return 9;
                case SPREAD: return 30;
                default: return 100;
            }
        }

        boolean isHall(int h) {
            return within(h, 0, hallCount - 1);
        }

        int addHall(int list, int itsTold, int earlier) {
            if (hallCount >= MOST_HALLS) {
                return NO_ROOM;
            }
            halls[hallCount].begin(list, itsTold, earlier);
            hallCount++;
            return hallCount - 1;
        }

        int addMark(int[] text, int size) {
            if (markCount >= MOST_MARKS) {
                return NO_ROOM;
            }
            System.arraycopy(text, 0, markTexts[markCount], 0, MOST_ELEMENTS);
            markSizes[markCount] = size;
            markCount++;
            return markCount - 1;
        }

        int nameOf(int h) {
            if (halls[h].missing) {
                return NONE;
            }
            for (int m = 0; m < markCount; m++) {
                if (markTruth.holds(markTexts[m], markSizes[m], halls[h], h)) {
                    return markTexts[m][0];
                }
            }
            return NONE;
        }

        int writtenCount() {
            int written = 0;
            for (int h = 0; h < hallCount; h++) {
                if (!halls[h].missing) {
                    written++;
                }
            }
            return written;
        }

        int watchedCount() {
            int watched = 0;
            for (int h = 0; h < hallCount; h++) {
                if (halls[h].watched) {
                    watched++;
                }
            }
            return watched;
        }

        int allLists() {
            int all = 0;
            for (int h = 0; h < hallCount; h++) {
                all += halls[h].list;
            }
            return all;
        }

        int figureCount(int figure, boolean first) {
            countFigures(first);
            return figureCounts[figure];
        }

        /** Counts LAST or FIRST figures anew, and answers how many there are of all. */
        private int countFigures(boolean first) {
            Arrays.fill(figureCounts, 0);
            int all = 0;
            for (int h = 0; h < hallCount; h++) {
                int figure = first ? halls[h].firstFigure() : halls[h].lastFigure();
                if (within(figure, 0, 9)) {
                    figureCounts[figure]++;
                    all++;
                }
            }
            return all;
        }

        long rowsWithFigure(int figure) {
            int n = 0;
            int k = 0;
            for (int h = 0; h < hallCount && n < MOST_ODDS_HALLS; h++) {
                int last = halls[h].lastFigure();
                n += last != NONE ? 1 : 0;
                k += last == figure ? 1 : 0;
            }
            return rowsWith(n, k);
        }

        /** Of all rows of n figures, in how many a figure comes k times or more. */
        private static long rowsWith(int n, int k) {
            long rows = 0;
            long otherwise = 1;
            long placings = 1;
            for (int times = n; times >= k; times--) {
                rows += placings * otherwise;
                placings = placings * times / (n - times + 1);
                otherwise *= 9;
            }
            return rows;
        }

        int roundCount(int share) {
            int round = 0;
            for (int h = 0; h < hallCount; h++) {
                Hall it = halls[h];
                if (!it.missing && isRound(it.came, it.ours) && (share == -1 || it.share() == share)) {
                    round++;
                }
            }
            return round;
        }

        int highCount() {
            int high = 0;
            for (int h = 0; h < hallCount; h++) {
                if (!halls[h].missing && halls[h].share() >= HIGH_SHARE) {
                    high++;
                }
            }
            return high;
        }

        boolean hasHighKin(int h) {
            for (int other = 0; other < hallCount; other++) {
                Hall it = halls[other];
                if (other != h && !it.missing && it.kin == halls[h].kin && it.share() >= HIGH_SHARE) {
                    return true;
                }
            }
            return false;
        }

        int middleShare(int town) {
            int size = 0;
            for (int h = 0; h < hallCount; h++) {
                Hall it = halls[h];
                if (!it.missing && it.town == town) {
                    putInOrder(it.share(), size);
                    size++;
                }
            }
            return size == 0 ? NONE : inOrder[size / 2];
        }

        private void putInOrder(int share, int size) {
            int place = size;
            for (; place > 0 && inOrder[place - 1] > share; place--) {
                inOrder[place] = inOrder[place - 1];
            }
            inOrder[place] = share;
        }

        int shareFromMiddle(Hall it) {
            return it.share() - middleShare(it.town);
        }

        int writtenCame(int district) {
            int came = 0;
            for (int h = 0; h < hallCount; h++) {
                came += !halls[h].missing && halls[h].district == district ? halls[h].came : 0;
            }
            return came;
        }

        int writtenOurs(int district) {
            int ours = 0;
            for (int h = 0; h < hallCount; h++) {
                ours += !halls[h].missing && halls[h].district == district ? halls[h].ours : 0;
            }
            return ours;
        }

        int allWrittenCame() {
            int came = 0;
            for (int district = 0; district < DISTRICTS; district++) {
                came += writtenCame(district);
            }
            return came;
        }

        int allWrittenOurs() {
            int ours = 0;
            for (int district = 0; district < DISTRICTS; district++) {
                ours += writtenOurs(district);
            }
            return ours;
        }

        int sentCame(int district) {
            return told[district] ? toldCame[district] : writtenCame(district);
        }

        int sentOurs(int district) {
            return told[district] ? toldOurs[district] : writtenOurs(district);
        }

        int sentMargin() {
            int margin = 0;
            for (int district = 0; district < DISTRICTS; district++) {
                margin += 2 * sentOurs(district) - sentCame(district);
            }
            return margin;
        }

        int writtenMargin() {
            return 2 * allWrittenOurs() - allWrittenCame();
        }

        int allUntrue() {
            int all = 0;
            for (int h = 0; h < hallCount; h++) {
                all += halls[h].missing ? 0 : halls[h].untruth();
            }
            return all;
        }

        int allMustBe() {
            int all = 0;
            for (int h = 0; h < hallCount; h++) {
                all += halls[h].missing ? 0 : halls[h].mustBe();
            }
            return all;
        }

        int fewestTurns() {
            int margin = writtenMargin();
            int turnedBits = 0;
            for (int turns = 0; turns <= hallCount; turns++) {
                if (margin <= 0) {
                    return turns;
                }
                int next = mostFalling(turnedBits);
                if (next == NONE) {
                    return NONE;
                }
                turnedBits |= 1 << next;
                margin -= halls[next].marginFall();
            }
            return NONE;
        }

        private int mostFalling(int turnedBits) {
            int most = NONE;
            for (int h = 0; h < hallCount; h++) {
                boolean open = !halls[h].missing && (turnedBits >> h & 1) == 0;
                if (open && (most == NONE || halls[h].marginFall() > halls[most].marginFall())) {
                    most = h;
                }
            }
            return most;
        }

        int measured(int what) {
            switch (what) {
                case 0: return unevenness(false);
                case 1: return unevenness(true);
                case 2: return roundCount(-1);
                case 3: return highCount();
                default: return allMustBe();
            }
        }

        private int unevenness(boolean first) {
            int all = countFigures(first);
            int least = first ? 1 : 0;
            int uneven = 0;
            for (int figure = least; figure <= 9; figure++) {
                int over = (10 - least) * figureCounts[figure] - all;
                uneven += over * over;
            }
            return uneven;
        }

        int becomeHonest(int seed) {
            int z = seed;
            int all = 0;
            for (int h = 0; h < hallCount; h++) {
                Hall it = halls[h];
                z = nextSeed(z);
                it.trueCame = it.list * heldTo(laws[BASES + it.town] + drawn(z), 0, 100) / 100;
                z = nextSeed(z);
                it.trueOurs = it.trueCame * heldTo(laws[CHOICES + it.kin] + drawn(z), 0, 100) / 100;
                all += it.trueCame;
            }
            return all;
        }

        private static int nextSeed(int z) {
            return z * 1103515245 + 12345;
        }

        private int drawn(int z) {
            int spread = laws[SPREAD];
            return (z & 0x7fffffff) / 65536 % (2 * spread + 1) - spread;
        }

        void writeTruth() {
            for (int h = 0; h < hallCount; h++) {
                Hall it = halls[h];
                if (!it.missing) {
                    it.write(it.trueCame, it.trueOurs);
                }
            }
        }
    }

    /** Who is WATCHED of the HALLS that aren't MISSING, as it was at the last look. */
    private static final class Watchers {
        private static final int FEW = 14;

        private final int[] shares = new int[MOST_HALLS];
        private int all;
        private int allShares;
        private int watched;
        private int watchedShares;

        void look(Country at) {
            all = 0;
            allShares = 0;
            watched = 0;
            watchedShares = 0;
            for (int h = 0; h < at.hallCount && h < MOST_HALLS; h++) {
                Hall it = at.halls[h];
                if (!it.missing) {
                    shares[all] = it.share();
                    all++;
                    allShares += it.share();
                    watched += it.watched ? 1 : 0;
                    watchedShares += it.watched ? it.share() : 0;
                }
            }
        }

        boolean areFew() {
            return all <= FEW;
        }

        boolean areSome() {
            return watched > 0 && watched < all;
        }

        int worth() {
            return watchedShares * (all - watched) - (allShares - watchedShares) * watched;
        }

        /** With as many WATCHED, COST is as much or less just where the sum of their SHARES is. */
        int choices(boolean any) {
            int choices = 0;
            for (int bits = 0; areFew() && bits < 1 << all; bits++) {
                if (Integer.bitCount(bits) == watched && (any || sharesIn(bits) <= watchedShares)) {
                    choices++;
                }
            }
            return choices;
        }

        private int sharesIn(int bits) {
            int sum = 0;
            for (int i = 0; i < all; i++) {
                sum += (bits >> i & 1) * shares[i];
            }
            return sum;
        }
    }

    /** Which HALLS to count again: of each budget the greatest worth, and bits of the HALLS for it. */
    private static final class Recount {
        private static final int BEYOND_LIST_WORTH = 50;

        final int[] best = new int[MOST_BUDGET + 1];
        final int[] chosen = new int[MOST_BUDGET + 1];

        /** The last HALL comes first: so what is as good without an earlier one stays without it. */
        void plan(Country at, int budget) {
            Arrays.fill(best, 0);
            Arrays.fill(chosen, 0);
            int hillsMiddle = at.middleShare(0);
            int townMiddle = at.middleShare(1);
            for (int h = at.hallCount - 1; h >= 0; h--) {
                Hall it = at.halls[h];
                if (!it.missing) {
                    int left = it.share() - (it.town == 1 ? townMiddle : hillsMiddle);
                    consider(h, it.came / 10 + 1, worthOf(left, it.mustBe()), budget);
                }
            }
        }

        private static int worthOf(int left, int mustBe) {
            return Math.abs(left) + (mustBe > 0 ? BEYOND_LIST_WORTH : 0);
        }

        private void consider(int h, int cost, int worth, int budget) {
            for (int coin = budget; coin >= cost; coin--) {
                if (best[coin - cost] + worth > best[coin]) {
                    best[coin] = best[coin - cost] + worth;
                    chosen[coin] = chosen[coin - cost] | 1 << h;
                }
            }
        }
    }

    /** What is read by MARKS, byte by byte: it finds the first byte with which none can go on. */
    private static final class MarkGrammar {
        static final int NO_FAULT = -1;
        static final int MOST_DEEP = 8;
        private static final int MOST_DIGITS = 4;
        private static final String FIELDS = "coltkdeswh";

        private static final int AT_NAME = 0;
        private static final int AT_COLON = 1;
        private static final int AT_TEST = 2;
        private static final int AT_ATOM = 3;
        private static final int IN_NUMBER = 4;
        private static final int BEHIND_FIELD = 5;
        private static final int BEHIND_GROUP = 6;

        private int state;
        private int depth;
        private boolean compared;
        private int digits;
        private boolean zeroAhead;

        int faultOf(int[] text, int size) {
            state = AT_NAME;
            depth = 0;
            for (int at = 0; at < size && at < text.length; at++) {
                if (!goesOn(text[at])) {
                    return at;
                }
            }
            return isWhole() ? NO_FAULT : size;
        }

        private boolean isWhole() {
            boolean behindTest = compared && (state == IN_NUMBER || state == BEHIND_FIELD);
            return depth == 0 && (behindTest || state == BEHIND_GROUP);
        }

        private boolean goesOn(int sign) {
            switch (state) {
                case AT_NAME: return sign >= 'A' && sign <= 'Z' && become(AT_COLON);
                case AT_COLON: return sign == ':' && become(AT_TEST);
                case AT_TEST: return beginsTest(sign);
                case AT_ATOM: return beginsAtom(sign);
                case IN_NUMBER: return addsDigit(sign) || followsAtom(sign);
                case BEHIND_FIELD: return followsAtom(sign);
                default: return followsTest(sign);
            }
        }

        private boolean become(int next) {
            state = next;
            return true;
        }

        private boolean beginsTest(int sign) {
            if (sign == '!') {
                return true;
            }
            if (sign == '(') {
                depth++;
                return depth <= MOST_DEEP;
            }
            compared = false;
            return beginsAtom(sign);
        }

        private boolean beginsAtom(int sign) {
            if (isDigit(sign)) {
                digits = 1;
                zeroAhead = sign == '0';
                return become(IN_NUMBER);
            }
            return isField(sign) && become(BEHIND_FIELD);
        }

        private boolean addsDigit(int sign) {
            if (!isDigit(sign) || zeroAhead || digits >= MOST_DIGITS) {
                return false;
            }
            digits++;
            return true;
        }

        private boolean followsAtom(int sign) {
            switch (sign) {
                case '+':
                case '-':
                case '*':
                case '%':
                    return become(AT_ATOM);
                case '<':
                case '>':
                case '=':
                    if (compared) {
                        return false;
                    }
                    compared = true;
                    return become(AT_ATOM);
                default:
                    return compared && followsTest(sign);
            }
        }

        private boolean followsTest(int sign) {
            if (sign == '&' || sign == '|') {
                return become(AT_TEST);
            }
            if (sign == ')' && depth > 0) {
                depth--;
                return become(BEHIND_GROUP);
            }
            return false;
        }

        static boolean isDigit(int sign) {
            return sign >= '0' && sign <= '9';
        }

        static boolean isField(int sign) {
            return sign > 0 && FIELDS.indexOf((char) sign) >= 0;
        }
    }

    /** Whether a MARK, read without a FAULT, holds of a HALL. */
    private static final class MarkTruth {
        private static final int BEHIND_COLON = 2;
        private static final int NOT_COMPARED = 0;

        /** For each ( that stands open: whether an AND held, whether this one does, whether a ! waits. */
        private final boolean[] any = new boolean[MarkGrammar.MOST_DEEP + 1];
        private final boolean[] all = new boolean[MarkGrammar.MOST_DEEP + 1];
        private final boolean[] turned = new boolean[MarkGrammar.MOST_DEEP + 1];
        private int depth;

        private int left;
        private int comparison;
        private int sum;
        private int adding;
        private int product;
        private int scaling;
        private int number;

        boolean holds(int[] text, int size, Hall hall, int itsNumber) {
            depth = 0;
            beginGroup();
            beginSum();
            comparison = NOT_COMPARED;
            number = 0;
            for (int at = BEHIND_COLON; at < size && at < text.length; at++) {
                if (MarkGrammar.isField(text[at])) {
                    takeAtom(fieldOf(text[at], hall, itsNumber));
                } else if (MarkGrammar.isDigit(text[at])) {
                    boolean goesOn = at + 1 < size && at + 1 < text.length && MarkGrammar.isDigit(text[at + 1]);
                    takeDigit(text[at] - '0', !goesOn);
                } else {
                    takeSign(text[at]);
                }
            }
            endTest();
            return any[0] || all[0];
        }

        private static int fieldOf(int sign, Hall hall, int itsNumber) {
            switch (sign) {
                case 'c': return hall.came;
                case 'o': return hall.ours;
                case 'l': return hall.list;
                case 't': return hall.town;
                case 'k': return hall.kin;
                case 'd': return hall.district;
                case 'e': return hall.earlier;
                case 's': return hall.share();
                case 'w': return hall.watched ? 1 : 0;
                default: return itsNumber;
            }
        }

        private void beginGroup() {
            any[depth] = false;
            all[depth] = true;
            turned[depth] = false;
        }

        private void beginSum() {
            sum = 0;
            adding = '+';
            beginProduct();
        }

        private void beginProduct() {
            product = 1;
            scaling = '*';
        }

        private void takeDigit(int digit, boolean isLast) {
            number = number * 10 + digit;
            if (isLast) {
                takeAtom(number);
                number = 0;
            }
        }

        private void takeAtom(int atom) {
            if (scaling == '*') {
                product *= atom;
            } else {
                product = atom == 0 ? 0 : product % atom;
            }
        }

        private void takeSign(int sign) {
            switch (sign) {
                case '*':
                case '%':
                    scaling = sign;
                    break;
                case '+':
                case '-':
                    endProduct();
                    adding = sign;
                    break;
                case '<':
                case '>':
                case '=':
                    endProduct();
                    left = sum;
                    comparison = sign;
                    beginSum();
                    break;
                case '!':
                    turned[depth] = !turned[depth];
                    break;
                default:
                    endTest();
                    takeJoint(sign);
                    break;
            }
        }

        private void takeJoint(int sign) {
            if (sign == '|') {
                any[depth] = any[depth] || all[depth];
                all[depth] = true;
            } else if (sign == '(' && depth < MarkGrammar.MOST_DEEP) {
                depth++;
                beginGroup();
            } else if (sign == ')' && depth > 0) {
                depth--;
                join(any[depth + 1] || all[depth + 1]);
            }
        }

        private void endProduct() {
            sum = adding == '-' ? sum - product : sum + product;
            beginProduct();
        }

        /** Behind a ) , and ahead of a ( , no comparison waits. */
        private void endTest() {
            if (comparison == NOT_COMPARED) {
                return;
            }
            endProduct();
            join(compared());
            comparison = NOT_COMPARED;
            beginSum();
        }

        private boolean compared() {
            switch (comparison) {
                case '<': return left < sum;
                case '>': return left > sum;
                default: return left == sum;
            }
        }

        private void join(boolean test) {
            all[depth] = all[depth] && test != turned[depth];
            turned[depth] = false;
        }
    }

    /** Holds nothing, a SHEET as it was when it was kept, or a ROW. */
    private static final class Shelf {
        static final int NOTHING = 0;
        static final int SHEET = 1;
        static final int ROW = 2;

        static final int BYTES = 0;
        static final int SHORTS = 1;
        static final int INTS = 2;

        int held = NOTHING;
        final Sheet sheet = new Sheet();
        private int hall;
        private int trueCame;
        int sort;
        int size;
        final int[] elements = new int[MOST_ELEMENTS];

        void holdSheet(int number, Hall its) {
            held = SHEET;
            hall = number;
            trueCame = its.trueCame;
            sheet.copyFrom(its.sheet);
        }

        void holdRow(int itsSort, int itsSize) {
            held = ROW;
            sort = itsSort;
            size = itsSize;
            Arrays.fill(elements, 0);
        }

        boolean hasPlace(int i) {
            return within(i, 0, size - 1);
        }

        boolean hasPlaces(int from, int n) {
            return from >= 0 && n >= 0 && n <= size && from <= size - n;
        }

        int lowestBits(int v) {
            switch (sort) {
                case BYTES: return (byte) v;
                case SHORTS: return (short) v;
                default: return v;
            }
        }

        /** The least number of a SORT stands for a MISSING one. */
        boolean tellsNumber(int i) {
            return hasPlace(i) && elements[i] != leastNumber();
        }

        private int leastNumber() {
            switch (sort) {
                case BYTES: return -128;
                case SHORTS: return -32768;
                default: return -2147483648;
            }
        }

        int caughtFailure() {
            if (trueCame == 0) {
                return NO_FAILURE;
            }
            try {
                sheet.fail();
                return NO_FAILURE;
            } catch (IllegalArgumentException made) {
                return sheet.number;
            } catch (UnsupportedOperationException stuffed) {
                return hall + 100;
            } catch (NoSuchElementException copied) {
                return hall + 200;
            } catch (IllegalStateException plain) {
                return hall;
            }
        }
    }
}

import java.util.Arrays;
import java.util.NoSuchElementException;

/**
 * A book of layers and glaciers; shared/DOC.md tells what each call promises.
 *
 * All rows are made with the object and used again: a call later on makes no object, so a run of
 * calls never needs more room than its books took at first.
 *
 * A call of the face first looks at all that is wrong (in the order of the document), then
 * remembers the page for undo(), and only then writes on it: so a call that throws changes nothing.
 */
public final class GlacierBook {
    public static final int NONE = -1;
    public static final int READ = 0, BETWEEN = 1, FROM_BELOW = 2, FROM_ABOVE = 3;

    private static final int MOST_LAYERS = 16;
    private static final int MOST_ORDERED = 14;
    private static final int MOST_BOUNDS = 50;
    private static final int MOST_YEARS = 9999;
    private static final int ROWS = 2;
    private static final int MOST_BANDS = 16;
    private static final int MOST_THICKNESS = 9;
    private static final int MOST_MARK = 3;
    private static final int MOST_PRICE = 20;
    private static final int MOST_AGE = 99999;
    private static final int ZONES = 8;
    private static final int YEARS = 10;
    private static final int PARTS = 4;
    private static final int MOST_AREA = 99;
    private static final int MOST_READING = 999;
    private static final int CELLS = 12;
    private static final int MOST_HEIGHT = 999;
    private static final int MOST_STEPS = 50;
    private static final int MOST_LINE = 2000;
    private static final int MOST_WEATHER = 20;
    private static final int MOST_TEXT = 80;
    private static final int FIRST_SIGN = 32, LAST_SIGN = 126;
    private static final int MOST_ACTS = 8;
    /** Above every sum of years and every price, and never added to. */
    private static final int FAR = 1000000000;

    private final Page now;
    private final Page[] past;
    private int nextPast;
    private int acts;
    private final Chains chains;
    private final Drawing drawing;
    private final Laying laying;
    private final Text text;

    public GlacierBook() {
        Page page = new Page();
        now = page;
        past = new Page[MOST_ACTS];
        for (int i = 0; i < MOST_ACTS; i++) {
            past[i] = new Page();
        }
        nextPast = 0;
        acts = 0;
        chains = new Chains(page.bounds);
        drawing = new Drawing(page.pile);
        laying = new Laying(page);
        text = new Text();
    }

    // ---- ages

    public int addLayer() throws IllegalStateException {
        if (now.pile.layers >= MOST_LAYERS) {
            throw new IllegalStateException("there are 16 layers");
        }
        remember();
        now.pile.layers++;
        return now.pile.layers;
    }

    public int least(int older, int younger, int years)
            throws IndexOutOfBoundsException, IllegalArgumentException, IllegalStateException {
        return putBound(younger, older, -years);
    }

    public int most(int older, int younger, int years)
            throws IndexOutOfBoundsException, IllegalArgumentException, IllegalStateException {
        return putBound(older, younger, years);
    }

    public int takeBack(int bound) throws IndexOutOfBoundsException, IllegalStateException {
        needBound(bound);
        remember();
        now.bounds.drop(bound);
        return now.bounds.left;
    }

    public boolean follows(int bound) throws IndexOutOfBoundsException, IllegalStateException {
        needBound(bound);
        Bounds bounds = now.bounds;
        return chains.leastSum(bounds.p[bound], bounds.q[bound], bound) <= bounds.w[bound];
    }

    public int low(int a, int b) throws IndexOutOfBoundsException, NoSuchElementException {
        return -greatestDifference(b, a);
    }

    public int high(int a, int b) throws IndexOutOfBoundsException, NoSuchElementException {
        return greatestDifference(a, b);
    }

    public int ringLength() {
        return chains.ringBounds;
    }

    public int ringAt(int index) throws IndexOutOfBoundsException {
        if (index < 0 || index >= chains.ringBounds) {
            throw new IndexOutOfBoundsException("the ring has not so many bounds");
        }
        return chains.ring[index];
    }

    public int layerCount() {
        return now.pile.layers;
    }

    public int boundCount() {
        return now.bounds.left;
    }

    // ---- what lies on what

    public int layOn(int a, int b)
            throws IndexOutOfBoundsException, IllegalArgumentException, IllegalStateException {
        needLayer(a);
        needLayer(b);
        if (a == b) {
            throw new IllegalArgumentException("a layer does not lie on itself");
        }
        if (freshDrawing().hasAbove(b, a)) {
            throw new IllegalStateException("the other one is above this one");
        }
        remember();
        now.pile.tell(a, b);
        return freshDrawing().lines();
    }

    public int takeOff(int a, int b) throws IndexOutOfBoundsException, NoSuchElementException {
        needLayer(a);
        needLayer(b);
        if (!now.pile.isTold(a, b)) {
            throw new NoSuchElementException("this was not told");
        }
        remember();
        now.pile.untell(a, b);
        return freshDrawing().lines();
    }

    public boolean isAbove(int a, int b) throws IndexOutOfBoundsException {
        needLayer(a);
        needLayer(b);
        return freshDrawing().hasAbove(a, b);
    }

    public int lineCount() {
        return freshDrawing().lines();
    }

    public int lineAt(int index) throws IndexOutOfBoundsException {
        Drawing fresh = freshDrawing();
        if (index < 0 || index >= fresh.lines()) {
            throw new IndexOutOfBoundsException("there is no such line");
        }
        return fresh.lineWith(index);
    }

    public long orders() throws IllegalStateException {
        if (now.pile.layers > MOST_ORDERED) {
            throw new IllegalStateException("there are more than 14 layers");
        }
        return freshDrawing().countOrders();
    }

    public int orderAt(int index) throws IndexOutOfBoundsException {
        if (index < 0 || index >= now.pile.layers) {
            throw new IndexOutOfBoundsException("there are not so many layers");
        }
        Drawing fresh = freshDrawing();
        fresh.arrange();
        return fresh.order[index];
    }

    public int phase(int a) throws IndexOutOfBoundsException {
        needLayer(a);
        Drawing fresh = freshDrawing();
        fresh.arrange();
        return fresh.depth[a];
    }

    // ---- bands

    public int addBand(int row, int thickness, int mark)
            throws IndexOutOfBoundsException, IllegalArgumentException, IllegalStateException {
        needRow(row);
        needRange(thickness, 1, MOST_THICKNESS);
        needRange(mark, 0, MOST_MARK);
        if (now.row(row).count >= MOST_BANDS) {
            throw new IllegalStateException("the row has 16 bands");
        }
        remember();
        return now.row(row).add(thickness, mark);
    }

    public int setPrices(int missed, int twice, int mark) throws IllegalArgumentException {
        needRange(missed, 0, MOST_PRICE);
        needRange(twice, 0, MOST_PRICE);
        needRange(mark, 0, MOST_PRICE);
        remember();
        int before = now.missed + now.twice + now.unlike;
        now.missed = missed;
        now.twice = twice;
        now.unlike = mark;
        return before;
    }

    public int tie(int first, int second) throws IndexOutOfBoundsException, IllegalStateException {
        needBand(0, first);
        needBand(1, second);
        if (now.first.tied[first] != NONE || now.second.tied[second] != NONE) {
            throw new IllegalStateException("one of the bands has a tie");
        }
        if (now.crosses(first, second)) {
            throw new IllegalStateException("it would cross a tie");
        }
        remember();
        now.first.tied[first] = second;
        now.second.tied[second] = first;
        return now.first.ties();
    }

    public int untie(int row, int band) throws IndexOutOfBoundsException, NoSuchElementException {
        needRow(row);
        needBand(row, band);
        int other = now.row(row).tied[band];
        if (other < 0 || other >= MOST_BANDS) {
            throw new NoSuchElementException("the band has no tie");
        }
        remember();
        now.row(row).tied[band] = NONE;
        now.row(1 - row).tied[other] = NONE;
        return other;
    }

    public int bandCount(int row) throws IndexOutOfBoundsException {
        needRow(row);
        return now.row(row).count;
    }

    public int leastPrice() {
        laying.lay(NONE, NONE);
        return laying.price[0][0];
    }

    public long bestWays() {
        laying.lay(NONE, NONE);
        return laying.ways[0][0];
    }

    public int partner(int row, int band) throws IndexOutOfBoundsException {
        needRow(row);
        needBand(row, band);
        laying.lay(NONE, NONE);
        laying.goFirstWay();
        return row == 0 ? laying.beside0[band] : laying.beside1[band];
    }

    public boolean isSure(int first, int second) throws IndexOutOfBoundsException {
        needBand(0, first);
        needBand(1, second);
        laying.lay(NONE, NONE);
        int best = laying.price[0][0];
        laying.lay(first, second);
        return laying.price[0][0] > best;
    }

    public int setDate(int row, int band, int age)
            throws IndexOutOfBoundsException, IllegalArgumentException, IllegalStateException {
        needRow(row);
        needBand(row, band);
        needRange(age, 0, MOST_AGE);
        if (!now.row(row).mayHaveDate(band, age)) {
            throw new IllegalStateException("dates would become less downwards");
        }
        remember();
        return now.row(row).changeDate(band, age);
    }

    public int noDate(int row, int band) throws IndexOutOfBoundsException, NoSuchElementException {
        needRow(row);
        needBand(row, band);
        if (now.row(row).date[band] == NONE) {
            throw new NoSuchElementException("the band has no date");
        }
        remember();
        return now.row(row).changeDate(band, NONE);
    }

    public int ageOf(int row, int band) throws IndexOutOfBoundsException, NoSuchElementException {
        needRow(row);
        needBand(row, band);
        int age = now.row(row).ageAt(band);
        if (age == NONE) {
            throw new NoSuchElementException("no dated bands round this one");
        }
        return age;
    }

    // ---- stakes

    public int setZone(int zone, int area, int part)
            throws IndexOutOfBoundsException, IllegalArgumentException {
        needIndex(zone, ZONES);
        needRange(area, 1, MOST_AREA);
        needRange(part, 0, PARTS - 1);
        remember();
        int before = now.stakes.area[zone];
        now.stakes.area[zone] = area;
        now.stakes.part[zone] = part;
        return before;
    }

    public int read(int zone, int year, int value)
            throws IndexOutOfBoundsException, IllegalArgumentException {
        needIndex(zone, ZONES);
        needIndex(year, YEARS);
        needRange(value, -MOST_READING, MOST_READING);
        remember();
        now.stakes.write(zone, year, value);
        return now.stakes.readings(year);
    }

    public int noReading(int zone, int year)
            throws IndexOutOfBoundsException, NoSuchElementException {
        needIndex(zone, ZONES);
        needIndex(year, YEARS);
        int before = now.stakes.readingAt(zone, year);
        if (before == Stakes.UNREAD) {
            throw new NoSuchElementException("there is no such reading");
        }
        remember();
        now.stakes.write(zone, year, Stakes.UNREAD);
        return before;
    }

    public int valueOf(int zone, int year) throws IndexOutOfBoundsException, NoSuchElementException {
        needIndex(zone, ZONES);
        needReadYear(year);
        return now.stakes.valueAt(zone, year);
    }

    public int reason(int zone, int year) throws IndexOutOfBoundsException, NoSuchElementException {
        needIndex(zone, ZONES);
        needReadYear(year);
        return now.stakes.reasonAt(zone, year);
    }

    public int balance(int year) throws IndexOutOfBoundsException, NoSuchElementException {
        needReadYear(year);
        return now.stakes.balanceOfAll(year);
    }

    public int partBalance(int part, int year)
            throws IndexOutOfBoundsException, NoSuchElementException {
        needIndex(part, PARTS);
        needReadYear(year);
        return now.stakes.balanceOfPart(part, year);
    }

    public int lineOf(int year) throws IndexOutOfBoundsException, NoSuchElementException {
        needReadYear(year);
        return now.stakes.lineIn(year);
    }

    // ---- ice

    public int setCell(int cell, int bed, int ice)
            throws IndexOutOfBoundsException, IllegalArgumentException {
        needIndex(cell, CELLS);
        needRange(bed, 0, MOST_HEIGHT);
        needRange(ice, 0, MOST_HEIGHT);
        remember();
        int before = now.ice.amount[cell];
        now.ice.bed[cell] = bed;
        now.ice.amount[cell] = ice;
        return before;
    }

    public int flow(int steps, int line, int snow, int melt) throws IllegalArgumentException {
        needRange(steps, 1, MOST_STEPS);
        needRange(line, 0, MOST_LINE);
        needRange(snow, 0, MOST_WEATHER);
        needRange(melt, 0, MOST_WEATHER);
        remember();
        for (int step = 0; step < steps; step++) {
            now.ice.move();
            now.ice.snowAndMelt(line, snow, melt);
        }
        return now.ice.total();
    }

    public int iceOf(int cell) throws IndexOutOfBoundsException {
        needIndex(cell, CELLS);
        return now.ice.amount[cell];
    }

    public int won() {
        return now.ice.gained;
    }

    // ---- lines, undo, measures

    public int type(long bytes) throws IllegalArgumentException, IllegalStateException {
        int more = Text.signsIn(bytes);
        if (more == NONE) {
            throw new IllegalArgumentException("a byte is not 32 to 126");
        }
        if (text.length + more > MOST_TEXT) {
            throw new IllegalStateException("the text would have more than 80 bytes");
        }
        text.addSigns(bytes);
        return text.length;
    }

    public int fault() {
        text.part();
        return text.firstFault();
    }

    public int doLine()
            throws IllegalArgumentException, IndexOutOfBoundsException, IllegalStateException {
        text.part();
        boolean faulty = text.firstFault() != NONE;
        int kind = text.kind();
        int a = text.numberOr0(1);
        int b = text.numberOr0(2);
        int c = text.numberOr0(3);
        text.length = 0;
        if (faulty) {
            throw new IllegalArgumentException("the text has a fault");
        }
        return doAct(kind, a, b, c);
    }

    public int undo() throws IllegalStateException {
        if (acts <= 0) {
            throw new IllegalStateException("no act is remembered");
        }
        acts--;
        nextPast = (nextPast + MOST_ACTS - 1) % MOST_ACTS;
        Page before = past[nextPast];
        if (before != null) {
            now.copy(before);
        }
        return acts;
    }

    public int actCount() {
        return acts;
    }

    public double meanValue(int year) throws IndexOutOfBoundsException, NoSuchElementException {
        needReadYear(year);
        return (double) now.stakes.balanceOfAll(year) / (double) now.stakes.areas();
    }

    public float aboveShare() {
        int layers = now.pile.layers;
        if (layers < 2) {
            return 0.0f;
        }
        int pairs = layers * (layers - 1) / 2;
        return (float) freshDrawing().pairsAbove() / (float) pairs;
    }

    public int errors() {
        return now.bounds.unfit() + freshDrawing().unlikePairs() + now.stakes.unlikeYears();
    }

    // ---- what several calls share

    /** Keeps the page as it is before an act that is sure not to throw any more. */
    private void remember() {
        Page kept = past[nextPast];
        if (kept != null) {
            kept.copy(now);
        }
        nextPast = (nextPast + 1) % MOST_ACTS;
        acts = Math.min(acts + 1, MOST_ACTS);
    }

    /** Puts in that the age of p is at most w more than that of q. */
    private int putBound(int p, int q, int w) {
        needPoint(p);
        needPoint(q);
        if (p == q) {
            throw new IllegalArgumentException("both are the same");
        }
        needRange(w, -MOST_YEARS, MOST_YEARS);
        if (now.bounds.count >= MOST_BOUNDS) {
            throw new IllegalStateException("there were 50 bounds");
        }
        int others = chains.othersAgainst(p, q, w);
        if (others > 0) {
            chains.tellRing(q, others);
            throw new IllegalStateException("no ages fit this bound");
        }
        remember();
        return now.bounds.put(p, q, w);
    }

    private int greatestDifference(int a, int b) {
        needPoint(a);
        needPoint(b);
        int sum = chains.leastSum(a, b, NONE);
        if (sum == FAR) {
            throw new NoSuchElementException("the difference has no end");
        }
        return sum;
    }

    /** Draws anew for each question, so that no drawing can be older than what was told. */
    private Drawing freshDrawing() {
        drawing.draw();
        return drawing;
    }

    private int doAct(int kind, int a, int b, int c) {
        switch (kind) {
            case Text.LEAST:
                return least(a, b, c);
            case Text.MOST:
                return most(a, b, c);
            case Text.ON:
                return layOn(a, b);
            case Text.BAND:
                return addBand(a, b, c);
            case Text.DATE:
                return setDate(a, b, c);
            default:
                return addLayer();
        }
    }

    private void needPoint(int point) {
        if (point < 0 || point > now.pile.layers) {
            throw new IndexOutOfBoundsException("there is no such layer");
        }
    }

    private void needLayer(int layer) {
        if (layer < 1 || layer > now.pile.layers) {
            throw new IndexOutOfBoundsException("there is no such layer");
        }
    }

    private void needBound(int bound) {
        if (bound < 0 || bound >= now.bounds.count) {
            throw new IndexOutOfBoundsException("there is no such bound");
        }
        if (!now.bounds.there[bound]) {
            throw new IllegalStateException("the bound was taken back");
        }
    }

    private void needRow(int row) {
        needIndex(row, ROWS);
    }

    private void needBand(int row, int band) {
        needIndex(band, now.row(row).count);
    }

    private void needReadYear(int year) {
        needIndex(year, YEARS);
        if (now.stakes.readings(year) == 0) {
            throw new NoSuchElementException("this year has no reading");
        }
    }

    private static void needIndex(int index, int count) {
        if (index < 0 || index >= count) {
            throw new IndexOutOfBoundsException("there is none with this number");
        }
    }

    private static void needRange(int number, int from, int to) {
        if (number < from || number > to) {
            throw new IllegalArgumentException("a number is out of range");
        }
    }

    /** All that undo() brings back. */
    private static final class Page {
        final Bounds bounds = new Bounds();
        final Pile pile = new Pile();
        final Row first = new Row();
        final Row second = new Row();
        final Stakes stakes = new Stakes();
        final Ice ice = new Ice();
        int missed = 4;
        int twice = 2;
        int unlike = 3;

        Row row(int number) {
            return number == 0 ? first : second;
        }

        boolean crosses(int newFirst, int newSecond) {
            for (int band = 0; band < first.count; band++) {
                int other = first.tied[band];
                if (other != NONE && (band < newFirst) != (other < newSecond)) {
                    return true;
                }
            }
            return false;
        }

        void copy(Page other) {
            bounds.copy(other.bounds);
            pile.copy(other.pile);
            first.copy(other.first);
            second.copy(other.second);
            stakes.copy(other.stakes);
            ice.copy(other.ice);
            missed = other.missed;
            twice = other.twice;
            unlike = other.unlike;
        }
    }

    /** The bounds as section 1 reads them for rings: the age of p is at most w more than that of q. */
    private static final class Bounds {
        final int[] p = new int[MOST_BOUNDS];
        final int[] q = new int[MOST_BOUNDS];
        final int[] w = new int[MOST_BOUNDS];
        final boolean[] there = new boolean[MOST_BOUNDS];
        final int[] ages = new int[MOST_LAYERS + 1];
        int count = 0;
        int left = 0;

        int put(int newP, int newQ, int newW) {
            int number = count;
            p[number] = newP;
            q[number] = newQ;
            w[number] = newW;
            there[number] = true;
            count++;
            left++;
            return number;
        }

        void drop(int number) {
            there[number] = false;
            left--;
        }

        /** Counts the bounds that lowered ages do not fit. */
        int unfit() {
            Arrays.fill(ages, 0);
            // Bounds that can be fitted are so after one round for each age.
            boolean lowered = true;
            for (int round = 0; lowered && round <= ages.length; round++) {
                lowered = lowerAges();
            }
            int wrong = 0;
            for (int i = 0; i < count; i++) {
                if (there[i] && ages[p[i]] > ages[q[i]] + w[i]) {
                    wrong++;
                }
            }
            return wrong;
        }

        private boolean lowerAges() {
            boolean lowered = false;
            for (int i = 0; i < count; i++) {
                int allowed = ages[q[i]] + w[i];
                if (there[i] && ages[p[i]] > allowed) {
                    ages[p[i]] = allowed;
                    lowered = true;
                }
            }
            return lowered;
        }

        void copy(Bounds other) {
            System.arraycopy(other.p, 0, p, 0, p.length);
            System.arraycopy(other.q, 0, q, 0, q.length);
            System.arraycopy(other.w, 0, w, 0, w.length);
            for (int i = 0; i < MOST_BOUNDS; i++) {
                there[i] = other.there[i];
            }
            count = other.count;
            left = other.left;
        }
    }

    /** Chains of bounds, each with the p that the one before has as its q; and the ring told latest. */
    private static final class Chains {
        final Bounds bounds;
        /** By number of bounds, then by the p of the first one: the least sum of a chain to the goal. */
        final int[][] sum = new int[MOST_LAYERS + 1][MOST_LAYERS + 1];
        final int[] ring = new int[MOST_LAYERS + 1];
        int ringBounds = 0;

        Chains(Bounds bounds) {
            this.bounds = bounds;
        }

        /** Returns the least sum of a chain from one to another without one bound; FAR without any. */
        int leastSum(int from, int to, int without) {
            measure(to, without);
            int best = FAR;
            for (int used = 0; used < sum.length; used++) {
                best = Math.min(best, sum[used][from]);
            }
            return best;
        }

        /**
         * Returns the least number of bounds with which a new one makes a ring; 0 if it makes none.
         * A ring with the fewest comes to no layer twice: the part between could be left out,
         * as the bounds that are there have no sum below 0 all round.
         */
        int othersAgainst(int p, int q, int w) {
            measure(p, NONE);
            for (int used = 1; used < sum.length; used++) {
                if (sum[used][q] != FAR && sum[used][q] + w < 0) {
                    return used;
                }
            }
            return 0;
        }

        /** Keeps the ring for which othersAgainst() has just measured. */
        void tellRing(int q, int others) {
            ring[0] = NONE;
            ringBounds = 1;
            int from = q;
            for (int left = others; left > 0; left--) {
                int bound = leastNumber(from, left);
                if (bound == NONE) {
                    return;
                }
                ring[ringBounds] = bound;
                ringBounds++;
                from = bounds.q[bound];
            }
        }

        private int leastNumber(int from, int left) {
            for (int i = 0; i < bounds.count; i++) {
                if (bounds.there[i] && bounds.p[i] == from) {
                    int rest = sum[left - 1][bounds.q[i]];
                    if (rest != FAR && rest + bounds.w[i] == sum[left][from]) {
                        return i;
                    }
                }
            }
            return NONE;
        }

        private void measure(int goal, int without) {
            Arrays.fill(sum[0], FAR);
            sum[0][goal] = 0;
            for (int used = 1; used < sum.length; used++) {
                Arrays.fill(sum[used], FAR);
                for (int i = 0; i < bounds.count; i++) {
                    int rest = sum[used - 1][bounds.q[i]];
                    if (bounds.there[i] && i != without && rest != FAR) {
                        int p = bounds.p[i];
                        sum[used][p] = Math.min(sum[used][p], rest + bounds.w[i]);
                    }
                }
            }
        }
    }

    /** What was told of layers: for each one the set of those on which it lies. */
    private static final class Pile {
        final int[] told = new int[MOST_LAYERS + 1];
        int layers = 0;

        static int bit(int layer) {
            return 1 << (layer - 1);
        }

        void tell(int a, int b) {
            told[a] |= bit(b);
        }

        void untell(int a, int b) {
            told[a] &= ~bit(b);
        }

        boolean isTold(int a, int b) {
            return (told[a] & bit(b)) != 0;
        }

        void copy(Pile other) {
            System.arraycopy(other.told, 0, told, 0, told.length);
            layers = other.layers;
        }
    }

    /** What follows from what was told of layers. */
    private static final class Drawing {
        final Pile pile;
        final int[] below = new int[MOST_LAYERS + 1];
        final int[] above = new int[MOST_LAYERS + 1];
        final int[] drawn = new int[MOST_LAYERS + 1];
        final int[] reached = new int[MOST_LAYERS + 1];
        final int[] order = new int[MOST_LAYERS];
        final int[] depth = new int[MOST_LAYERS + 1];
        /** For each set of layers: in how many ways they can be the uppermost ones. */
        final long[] waysOfSet = new long[1 << MOST_ORDERED];
        int layers = 0;

        Drawing(Pile pile) {
            this.pile = pile;
        }

        void draw() {
            layers = pile.layers;
            System.arraycopy(pile.told, 0, below, 0, below.length);
            close(below);
            Arrays.fill(above, 0);
            for (int a = 1; a <= layers; a++) {
                drawn[a] = below[a];
                for (int b = 1; b <= layers; b++) {
                    if (hasAbove(a, b)) {
                        above[b] |= Pile.bit(a);
                        drawn[a] &= ~below[b];
                    }
                }
            }
        }

        /** Adds to each layer's set the sets of the layers in it. */
        private void close(int[] sets) {
            for (int between = 1; between <= layers; between++) {
                for (int a = 1; a <= layers; a++) {
                    if ((sets[a] & Pile.bit(between)) != 0) {
                        sets[a] |= sets[between];
                    }
                }
            }
        }

        boolean hasAbove(int a, int b) {
            return (below[a] & Pile.bit(b)) != 0;
        }

        int lines() {
            return pairsIn(drawn);
        }

        int pairsAbove() {
            return pairsIn(below);
        }

        private int pairsIn(int[] sets) {
            int pairs = 0;
            for (int a = 1; a <= layers; a++) {
                pairs += Integer.bitCount(sets[a]);
            }
            return pairs;
        }

        int lineWith(int index) {
            int ahead = 0;
            for (int a = 1; a <= layers; a++) {
                for (int b = 1; b <= layers; b++) {
                    if ((drawn[a] & Pile.bit(b)) != 0) {
                        if (ahead == index) {
                            return 32 * a + b;
                        }
                        ahead++;
                    }
                }
            }
            return NONE;
        }

        /** Finds the first order and, as all that is above a layer comes ahead of it, the depths. */
        void arrange() {
            int placed = 0;
            for (int place = 0; place < layers; place++) {
                int layer = nextLayer(placed);
                order[place] = layer;
                depth[layer] = depthUnder(layer);
                placed |= Pile.bit(layer);
            }
        }

        private int nextLayer(int placed) {
            for (int a = 1; a < layers; a++) {
                boolean isPlaced = (placed & Pile.bit(a)) != 0;
                if (!isPlaced && (above[a] & ~placed) == 0) {
                    return a;
                }
            }
            return layers;
        }

        private int depthUnder(int layer) {
            int greatest = 0;
            for (int a = 1; a <= layers; a++) {
                if (hasAbove(a, layer)) {
                    greatest = Math.max(greatest, depth[a] + 1);
                }
            }
            return greatest;
        }

        /** Layers that have nothing above or below them are set among the others at the end. */
        long countOrders() {
            int free = freeLayers();
            int all = (1 << layers) - 1;
            if (all >= waysOfSet.length) {
                return 0;
            }
            Arrays.fill(waysOfSet, 0);
            waysOfSet[free] = 1;
            for (int set = free; set < all; set++) {
                if (waysOfSet[set] > 0) {
                    goOn(set);
                }
            }
            long orders = waysOfSet[all];
            for (int places = layers - Integer.bitCount(free) + 1; places <= layers; places++) {
                orders *= places;
            }
            return orders;
        }

        /** Adds the ways of a set to those of each set that has one layer more, which can be next. */
        private void goOn(int set) {
            for (int next = 1; next <= layers; next++) {
                int bit = Pile.bit(next);
                if ((set & bit) == 0 && (above[next] & ~set) == 0) {
                    waysOfSet[set | bit] += waysOfSet[set];
                }
            }
        }

        private int freeLayers() {
            int free = 0;
            for (int a = 1; a <= layers; a++) {
                if (above[a] == 0 && below[a] == 0) {
                    free |= Pile.bit(a);
                }
            }
            return free;
        }

        /** Counts the pairs that the lines alone put above one another otherwise than what was told. */
        int unlikePairs() {
            System.arraycopy(drawn, 0, reached, 0, reached.length);
            close(reached);
            int unlike = 0;
            for (int a = 1; a <= layers; a++) {
                unlike += Integer.bitCount(reached[a] ^ below[a]);
            }
            return unlike;
        }
    }

    /** The bands of one row. */
    private static final class Row {
        final int[] thickness = new int[MOST_BANDS];
        final int[] mark = new int[MOST_BANDS];
        final int[] tied = new int[MOST_BANDS];
        final int[] date = new int[MOST_BANDS];
        int count = 0;

        int add(int newThickness, int newMark) {
            int number = count;
            thickness[number] = newThickness;
            mark[number] = newMark;
            tied[number] = NONE;
            date[number] = NONE;
            count++;
            return number;
        }

        int ties() {
            int ties = 0;
            for (int band = 0; band < count; band++) {
                if (tied[band] != NONE) {
                    ties++;
                }
            }
            return ties;
        }

        boolean mayHaveDate(int band, int age) {
            for (int other = 0; other < count; other++) {
                if (date[other] != NONE) {
                    boolean tooOld = other < band && date[other] > age;
                    boolean tooYoung = other > band && date[other] < age;
                    if (tooOld || tooYoung) {
                        return false;
                    }
                }
            }
            return true;
        }

        int changeDate(int band, int age) {
            int before = date[band];
            date[band] = age;
            return before;
        }

        /** Returns the age of a band; NONE if it can't be told. */
        int ageAt(int band) {
            if (date[band] != NONE) {
                return date[band];
            }
            int a = datedAbove(band);
            int b = datedBelow(band);
            if (a == NONE || b == NONE || b <= a) {
                return NONE;
            }
            return date[a] + (date[b] - date[a]) * (band - a) / (b - a);
        }

        private int datedAbove(int band) {
            for (int other = band - 1; other >= 0; other--) {
                if (date[other] != NONE) {
                    return other;
                }
            }
            return NONE;
        }

        private int datedBelow(int band) {
            for (int other = band + 1; other < count; other++) {
                if (date[other] != NONE) {
                    return other;
                }
            }
            return NONE;
        }

        void copy(Row other) {
            System.arraycopy(other.thickness, 0, thickness, 0, thickness.length);
            System.arraycopy(other.mark, 0, mark, 0, mark.length);
            System.arraycopy(other.tied, 0, tied, 0, tied.length);
            System.arraycopy(other.date, 0, date, 0, date.length);
            count = other.count;
        }
    }

    /** The ways of laying both rows beside each other, from what is taken of them on. */
    private static final class Laying {
        private static final int TOGETHER = 0, ONLY_0 = 1, ONLY_1 = 2, DOUBLE_1 = 3;
        /** How many bands of each row a step takes, by its kind; DOUBLE_0 is the last one. */
        private static final int[] TAKES_0 = {1, 1, 0, 1, 2};
        private static final int[] TAKES_1 = {1, 0, 1, 2, 1};

        final Page page;
        final Row first;
        final Row second;
        /** By the number of bands taken of the row 0, then of the row 1: the least price of the rest. */
        final int[][] price = new int[MOST_BANDS + 1][MOST_BANDS + 1];
        final long[][] ways = new long[MOST_BANDS + 1][MOST_BANDS + 1];
        final int[] beside0 = new int[MOST_BANDS];
        final int[] beside1 = new int[MOST_BANDS];
        int barred0 = NONE;
        int barred1 = NONE;

        Laying(Page page) {
            this.page = page;
            first = page.first;
            second = page.second;
        }

        /** Finds prices and numbers of best ways; two bands can be barred from a step TOGETHER. */
        void lay(int newBarred0, int newBarred1) {
            barred0 = newBarred0;
            barred1 = newBarred1;
            for (int i = first.count; i >= 0; i--) {
                for (int j = second.count; j >= 0; j--) {
                    layFrom(i, j);
                }
            }
        }

        private void layFrom(int i, int j) {
            boolean atEnd = i == first.count && j == second.count;
            price[i][j] = atEnd ? 0 : FAR;
            ways[i][j] = atEnd ? 1 : 0;
            for (int kind = 0; kind < TAKES_0.length; kind++) {
                int whole = wholePrice(kind, i, j);
                if (whole < price[i][j]) {
                    price[i][j] = whole;
                    ways[i][j] = 0;
                }
                if (whole != FAR && whole == price[i][j]) {
                    ways[i][j] += ways[i + TAKES_0[kind]][j + TAKES_1[kind]];
                }
            }
        }

        /** Returns the price of a step and of the rest behind it; FAR if it can't be made there. */
        private int wholePrice(int kind, int i, int j) {
            int nextI = i + TAKES_0[kind];
            int nextJ = j + TAKES_1[kind];
            if (nextI > first.count || nextJ > second.count || price[nextI][nextJ] == FAR) {
                return FAR;
            }
            int step = stepPrice(kind, i, j);
            return step == FAR ? FAR : step + price[nextI][nextJ];
        }

        private int stepPrice(int kind, int i, int j) {
            switch (kind) {
                case TOGETHER:
                    return togetherPrice(i, j);
                case ONLY_0:
                    return first.tied[i] == NONE ? page.missed : FAR;
                case ONLY_1:
                    return second.tied[j] == NONE ? page.missed : FAR;
                case DOUBLE_1:
                    return doublePrice(first, i, second, j);
                default:
                    return doublePrice(second, j, first, i);
            }
        }

        private int togetherPrice(int i, int j) {
            boolean tiedAway = first.tied[i] != NONE && first.tied[i] != j;
            boolean otherTiedAway = second.tied[j] != NONE && second.tied[j] != i;
            boolean barred = i == barred0 && j == barred1;
            if (tiedAway || otherTiedAway || barred) {
                return FAR;
            }
            int difference = Math.abs(first.thickness[i] - second.thickness[j]);
            return first.mark[i] == second.mark[j] ? difference : difference + page.unlike;
        }

        /** Returns the price of laying a band of a row beside two of the other row. */
        private int doublePrice(Row row, int band, Row other, int upper) {
            int lower = upper + 1;
            if (row.tied[band] != NONE || other.tied[upper] != NONE || other.tied[lower] != NONE) {
                return FAR;
            }
            int both = other.thickness[upper] + other.thickness[lower];
            int sum = page.twice + Math.abs(row.thickness[band] - both);
            int mark = row.mark[band];
            return mark == other.mark[upper] || mark == other.mark[lower] ? sum : sum + page.unlike;
        }

        /** Goes the first best way and keeps what it lays beside each band. */
        void goFirstWay() {
            Arrays.fill(beside0, NONE);
            Arrays.fill(beside1, NONE);
            int i = 0;
            int j = 0;
            for (int step = 0; step < 2 * MOST_BANDS; step++) {
                int kind = firstKind(i, j);
                if (kind == NONE) {
                    return;
                }
                keepStep(kind, i, j);
                i += TAKES_0[kind];
                j += TAKES_1[kind];
            }
        }

        private int firstKind(int i, int j) {
            for (int kind = 0; kind < TAKES_0.length; kind++) {
                int whole = wholePrice(kind, i, j);
                if (whole != FAR && whole == price[i][j]) {
                    return kind;
                }
            }
            return NONE;
        }

        private void keepStep(int kind, int i, int j) {
            if (kind == ONLY_0 || kind == ONLY_1) {
                return;
            }
            for (int k = 0; k < TAKES_0[kind]; k++) {
                beside0[i + k] = j;
            }
            for (int k = 0; k < TAKES_1[kind]; k++) {
                beside1[j + k] = i;
            }
        }
    }

    /** Zones and what was read in them. */
    private static final class Stakes {
        static final int UNREAD = MOST_READING + 1;

        final int[] area = new int[ZONES];
        final int[] part = new int[ZONES];
        final int[] reading = new int[ZONES * YEARS];

        Stakes() {
            Arrays.fill(area, 1);
            Arrays.fill(reading, UNREAD);
        }

        int readingAt(int zone, int year) {
            return reading[zone * YEARS + year];
        }

        void write(int zone, int year, int value) {
            reading[zone * YEARS + year] = value;
        }

        int readings(int year) {
            int count = 0;
            for (int zone = 0; zone < ZONES; zone++) {
                if (readingAt(zone, year) != UNREAD) {
                    count++;
                }
            }
            return count;
        }

        private int readBelow(int zone, int year) {
            for (int lower = zone - 1; lower >= 0; lower--) {
                if (readingAt(lower, year) != UNREAD) {
                    return lower;
                }
            }
            return NONE;
        }

        private int readAbove(int zone, int year) {
            for (int higher = zone + 1; higher < ZONES; higher++) {
                if (readingAt(higher, year) != UNREAD) {
                    return higher;
                }
            }
            return NONE;
        }

        int reasonAt(int zone, int year) {
            if (readingAt(zone, year) != UNREAD) {
                return READ;
            }
            if (readAbove(zone, year) == NONE) {
                return FROM_BELOW;
            }
            return readBelow(zone, year) == NONE ? FROM_ABOVE : BETWEEN;
        }

        /** Returns a value of a year that has a reading. */
        int valueAt(int zone, int year) {
            int value = readingAt(zone, year);
            if (value != UNREAD) {
                return value;
            }
            int lower = readBelow(zone, year);
            int higher = readAbove(zone, year);
            if (lower == NONE) {
                return higher == NONE ? 0 : readingAt(higher, year);
            }
            int from = readingAt(lower, year);
            if (higher <= lower) {
                return from;
            }
            int rise = readingAt(higher, year) - from;
            return from + Math.floorDiv(rise * (zone - lower), higher - lower);
        }

        int balanceOfAll(int year) {
            int sum = 0;
            for (int zone = 0; zone < ZONES; zone++) {
                sum += area[zone] * valueAt(zone, year);
            }
            return sum;
        }

        int balanceOfPart(int number, int year) {
            int sum = 0;
            for (int zone = 0; zone < ZONES; zone++) {
                if (part[zone] == number) {
                    sum += area[zone] * valueAt(zone, year);
                }
            }
            return sum;
        }

        int lineIn(int year) {
            for (int zone = ZONES - 1; zone >= 0; zone--) {
                if (valueAt(zone, year) < 0) {
                    return zone + 1;
                }
            }
            return 0;
        }

        int areas() {
            int sum = 0;
            for (int zone = 0; zone < ZONES; zone++) {
                sum += area[zone];
            }
            return sum;
        }

        /** Counts the years in which the balances of the parts have another sum than that of all. */
        int unlikeYears() {
            int unlike = 0;
            for (int year = 0; year < YEARS; year++) {
                if (readings(year) > 0 && sumOfParts(year) != balanceOfAll(year)) {
                    unlike++;
                }
            }
            return unlike;
        }

        private int sumOfParts(int year) {
            int sum = 0;
            for (int number = 0; number < PARTS; number++) {
                sum += balanceOfPart(number, year);
            }
            return sum;
        }

        void copy(Stakes other) {
            System.arraycopy(other.area, 0, area, 0, area.length);
            System.arraycopy(other.part, 0, part, 0, part.length);
            System.arraycopy(other.reading, 0, reading, 0, reading.length);
        }
    }

    /** The row of cells with their ice. */
    private static final class Ice {
        final int[] bed = new int[CELLS];
        final int[] amount = new int[CELLS];
        final int[] change = new int[CELLS];
        int gained = 0;

        private int surface(int cell) {
            return bed[cell] + amount[cell];
        }

        /** Moves all ice at once: what the cells lose and get is put on only when all have looked. */
        void move() {
            Arrays.fill(change, 0);
            for (int cell = 0; cell + 1 < CELLS; cell++) {
                int on = outflow(cell, cell + 1) - outflow(cell + 1, cell);
                change[cell] -= on;
                change[cell + 1] += on;
            }
            for (int cell = 0; cell < CELLS; cell++) {
                amount[cell] += change[cell];
            }
        }

        private int outflow(int from, int to) {
            int fall = Math.max(surface(from) - surface(to), 0);
            return Math.min(fall / 4, amount[from] / 2);
        }

        void snowAndMelt(int snowLine, int snow, int melt) {
            for (int cell = 0; cell < CELLS; cell++) {
                int gain = surface(cell) >= snowLine ? snow : -Math.min(melt, amount[cell]);
                amount[cell] += gain;
                gained += gain;
            }
        }

        int total() {
            int sum = 0;
            for (int cell = 0; cell < CELLS; cell++) {
                sum += amount[cell];
            }
            return sum;
        }

        void copy(Ice other) {
            System.arraycopy(other.bed, 0, bed, 0, bed.length);
            System.arraycopy(other.amount, 0, amount, 0, amount.length);
            gained = other.gained;
        }
    }

    /** The text, and its words as they were parted latest. */
    private static final class Text {
        static final int LEAST = 0, MOST = 1, ON = 2, BAND = 3, DATE = 4, LAYER = 5;
        /** How many numbers follow the first word, by its kind. */
        private static final int[] NUMBERS = {3, 3, 2, 3, 3, 0};
        private static final int MOST_WORDS = MOST_TEXT / 2;
        private static final long GREATEST_NUMBER = 2147483647L;
        private static final long NO_NUMBER = 2 * GREATEST_NUMBER;

        final char[] signs = new char[MOST_TEXT];
        final int[] start = new int[MOST_WORDS];
        final int[] end = new int[MOST_WORDS];
        int length = 0;
        int words = 0;

        private static int byteOf(long bytes, int place) {
            return (int) (bytes >>> (8 * place)) & 255;
        }

        /** Returns how many bytes are not 0; NONE if one of these can't stand in the text. */
        static int signsIn(long bytes) {
            int count = 0;
            for (int place = 7; place >= 0; place--) {
                int sign = byteOf(bytes, place);
                if (sign != 0) {
                    if (sign < FIRST_SIGN || sign > LAST_SIGN) {
                        return NONE;
                    }
                    count++;
                }
            }
            return count;
        }

        void addSigns(long bytes) {
            for (int place = 7; place >= 0; place--) {
                int sign = byteOf(bytes, place);
                if (sign != 0 && length < MOST_TEXT) {
                    signs[length] = (char) sign;
                    length++;
                }
            }
        }

        void part() {
            words = 0;
            boolean inWord = false;
            for (int at = 0; at < length; at++) {
                boolean blank = signs[at] == ' ';
                if (!blank && !inWord && words < MOST_WORDS) {
                    start[words] = at;
                    words++;
                }
                if (!blank && words > 0) {
                    end[words - 1] = at + 1;
                }
                inWord = !blank;
            }
        }

        /** Returns the first fault of the parted words; NONE if they have none. */
        int firstFault() {
            int kind = kind();
            if (kind == NONE) {
                return 0;
            }
            int numbers = NUMBERS[kind];
            for (int word = 1; word <= numbers; word++) {
                if (word >= words || numberAt(word) == NO_NUMBER) {
                    return word;
                }
            }
            return words > numbers + 1 ? numbers + 1 : NONE;
        }

        int kind() {
            for (int kind = LEAST; words > 0 && kind <= LAYER; kind++) {
                if (isFirst(nameOf(kind))) {
                    return kind;
                }
            }
            return NONE;
        }

        private static String nameOf(int kind) {
            switch (kind) {
                case LEAST:
                    return "least";
                case MOST:
                    return "most";
                case ON:
                    return "on";
                case BAND:
                    return "band";
                case DATE:
                    return "date";
                default:
                    return "layer";
            }
        }

        private boolean isFirst(String name) {
            if (end[0] - start[0] != name.length()) {
                return false;
            }
            for (int i = 0; i < name.length(); i++) {
                if (signs[start[0] + i] != name.charAt(i)) {
                    return false;
                }
            }
            return true;
        }

        private long numberAt(int word) {
            int at = start[word];
            boolean negative = signs[at] == '-';
            if (negative || signs[at] == '+') {
                at++;
            }
            if (at >= end[word]) {
                return NO_NUMBER;
            }
            long amount = 0;
            for (; at < end[word]; at++) {
                int digit = signs[at] - '0';
                if (digit < 0 || digit > 9) {
                    return NO_NUMBER;
                }
                amount = 10 * amount + digit;
                // Looked at after each digit, as many digits would pass what a long can hold.
                if (amount > GREATEST_NUMBER + 1) {
                    return NO_NUMBER;
                }
            }
            long number = negative ? -amount : amount;
            return number > GREATEST_NUMBER ? NO_NUMBER : number;
        }

        int numberOr0(int word) {
            long number = word < words ? numberAt(word) : NO_NUMBER;
            return number == NO_NUMBER ? 0 : (int) number;
        }
    }
}

import java.math.BigInteger;
import java.util.ArrayDeque;
import java.util.ArrayList;
import java.util.Arrays;
import java.util.HashMap;
import java.util.List;
import java.util.NoSuchElementException;
import java.util.StringTokenizer;
import java.util.TreeMap;
import java.util.TreeSet;

/** The document written a second time, slow and plain, for the tests to compare with. */
public final class PlainBook {
    private static final List<String> STEPS =
            List.of("TOGETHER", "ONLY_0", "ONLY_1", "DOUBLE_1", "DOUBLE_0");

    /** A bound as it was told. */
    private record Bound(boolean atLeast, int older, int younger, int years, boolean there) {
        int p() {
            return atLeast ? younger : older;
        }

        int q() {
            return atLeast ? older : younger;
        }

        int w() {
            return atLeast ? -years : years;
        }
    }

    private record Band(int thickness, int mark) {
    }

    /** All that undo brings back. */
    private static final class State {
        int layers = 0;
        List<Bound> bounds = new ArrayList<>();
        TreeSet<Integer> told = new TreeSet<>();
        List<List<Band>> bands = List.of(new ArrayList<>(), new ArrayList<>());
        List<TreeMap<Integer, Integer>> dates = List.of(new TreeMap<>(), new TreeMap<>());
        TreeMap<Integer, Integer> ties = new TreeMap<>();
        int[] prices = {4, 2, 3};
        int[] areas = {1, 1, 1, 1, 1, 1, 1, 1};
        int[] parts = new int[8];
        List<TreeMap<Integer, Integer>> readings = new ArrayList<>();
        int[] beds = new int[12];
        int[] ice = new int[12];
        int won = 0;

        State() {
            for (int year = 0; year < 10; year++) {
                readings.add(new TreeMap<>());
            }
        }

        State twin() {
            State twin = new State();
            twin.layers = layers;
            twin.bounds = new ArrayList<>(bounds);
            twin.told = new TreeSet<>(told);
            twin.bands = List.of(new ArrayList<>(bands.get(0)), new ArrayList<>(bands.get(1)));
            twin.dates = List.of(new TreeMap<>(dates.get(0)), new TreeMap<>(dates.get(1)));
            twin.ties = new TreeMap<>(ties);
            twin.prices = prices.clone();
            twin.areas = areas.clone();
            twin.parts = parts.clone();
            for (int year = 0; year < 10; year++) {
                twin.readings.set(year, new TreeMap<>(readings.get(year)));
            }
            twin.beds = beds.clone();
            twin.ice = ice.clone();
            twin.won = won;
            return twin;
        }
    }

    private State s = new State();
    private final ArrayDeque<State> past = new ArrayDeque<>();
    private List<Integer> ring = new ArrayList<>();
    private String text = "";

    private void remember() {
        past.addLast(s.twin());
        if (past.size() > 8) {
            past.removeFirst();
        }
    }

    private static void index(boolean good) {
        if (!good) {
            throw new IndexOutOfBoundsException();
        }
    }

    private static void argument(boolean good) {
        if (!good) {
            throw new IllegalArgumentException();
        }
    }

    private static void state(boolean good) {
        if (!good) {
            throw new IllegalStateException();
        }
    }

    private static void element(boolean good) {
        if (!good) {
            throw new NoSuchElementException();
        }
    }

    // ---- ages

    public int addLayer() {
        state(s.layers < 16);
        remember();
        return ++s.layers;
    }

    public int least(int older, int younger, int years) {
        return bound(true, older, younger, years);
    }

    public int most(int older, int younger, int years) {
        return bound(false, older, younger, years);
    }

    private int bound(boolean atLeast, int older, int younger, int years) {
        index(older >= 0 && older <= s.layers && younger >= 0 && younger <= s.layers);
        argument(older != younger && years >= -9999 && years <= 9999);
        state(s.bounds.size() < 50);
        Bound fresh = new Bound(atLeast, older, younger, years, true);
        List<Bound> all = new ArrayList<>(s.bounds);
        all.add(fresh);
        if (differences(all) == null) {
            ring = ringOf(fresh);
            throw new IllegalStateException();
        }
        remember();
        s.bounds.add(fresh);
        return s.bounds.size() - 1;
    }

    /** For each pair how much older the first can be, null for any; null for all if no ages fit. */
    private Long[][] differences(List<Bound> bounds) {
        Long[][] most = new Long[17][17];
        for (int a = 0; a < 17; a++) {
            most[a][a] = 0L;
        }
        for (Bound b : bounds) {
            if (b.there()) {
                lower(most, b.p(), b.q(), b.w());
            }
        }
        for (int k = 0; k < 17; k++) {
            for (int a = 0; a < 17; a++) {
                for (int b = 0; b < 17; b++) {
                    if (most[a][k] != null && most[k][b] != null) {
                        lower(most, a, b, most[a][k] + most[k][b]);
                    }
                }
            }
        }
        for (int a = 0; a < 17; a++) {
            if (most[a][a] < 0) {
                return null;
            }
        }
        return most;
    }

    private static void lower(Long[][] most, int a, int b, long sum) {
        if (most[a][b] == null || most[a][b] > sum) {
            most[a][b] = sum;
        }
    }

    private long bestSum;
    private List<Integer> bestRing;

    /** Goes all ways round, from short ones to long ones. */
    private List<Integer> ringOf(Bound fresh) {
        for (int others = 1; others <= 16; others++) {
            bestSum = 0;
            bestRing = null;
            ArrayList<Integer> sofar = new ArrayList<>();
            sofar.add(-1);
            goRound(fresh.q(), fresh.p(), others, fresh.w(), sofar);
            if (bestRing != null) {
                return bestRing;
            }
        }
        throw new AssertionError("no ring");
    }

    private void goRound(int from, int goal, int left, long sum, ArrayList<Integer> sofar) {
        if (left == 0) {
            if (from == goal && sum < bestSum) {
                bestSum = sum;
                bestRing = new ArrayList<>(sofar);
            }
            return;
        }
        for (int i = 0; i < s.bounds.size(); i++) {
            Bound b = s.bounds.get(i);
            if (b.there() && b.p() == from) {
                sofar.add(i);
                goRound(b.q(), goal, left - 1, sum + b.w(), sofar);
                sofar.remove(sofar.size() - 1);
            }
        }
    }

    public int takeBack(int bound) {
        index(bound >= 0 && bound < s.bounds.size());
        Bound b = s.bounds.get(bound);
        state(b.there());
        remember();
        s.bounds.set(bound, new Bound(b.atLeast(), b.older(), b.younger(), b.years(), false));
        return boundCount();
    }

    public boolean follows(int bound) {
        index(bound >= 0 && bound < s.bounds.size());
        state(s.bounds.get(bound).there());
        List<Bound> others = new ArrayList<>(s.bounds);
        others.remove(bound);
        return Arrays.deepEquals(differences(s.bounds), differences(others));
    }

    public int low(int a, int b) {
        return -high(b, a);
    }

    public int high(int a, int b) {
        index(a >= 0 && a <= s.layers && b >= 0 && b <= s.layers);
        Long most = differences(s.bounds)[a][b];
        element(most != null);
        return Math.toIntExact(most);
    }

    public int ringLength() {
        return ring.size();
    }

    public int ringAt(int index) {
        index(index >= 0 && index < ring.size());
        return ring.get(index);
    }

    public int layerCount() {
        return s.layers;
    }

    public int boundCount() {
        return (int) s.bounds.stream().filter(Bound::there).count();
    }

    // ---- what lies on what

    private void layer(int a) {
        index(a >= 1 && a <= s.layers);
    }

    private boolean[][] overAll() {
        boolean[][] over = new boolean[17][17];
        for (int a = 1; a <= s.layers; a++) {
            ArrayDeque<Integer> open = new ArrayDeque<>(List.of(a));
            while (!open.isEmpty()) {
                int from = open.remove();
                for (int pair : s.told.subSet(32 * from, 32 * from + 32)) {
                    if (!over[a][pair % 32]) {
                        over[a][pair % 32] = true;
                        open.add(pair % 32);
                    }
                }
            }
        }
        return over;
    }

    private List<Integer> drawing() {
        boolean[][] over = overAll();
        List<Integer> lines = new ArrayList<>();
        for (int a = 1; a <= s.layers; a++) {
            for (int b = 1; b <= s.layers; b++) {
                boolean line = over[a][b];
                for (int c = 1; c <= s.layers; c++) {
                    line &= !(over[a][c] && over[c][b]);
                }
                if (line) {
                    lines.add(32 * a + b);
                }
            }
        }
        return lines;
    }

    public int layOn(int a, int b) {
        layer(a);
        layer(b);
        argument(a != b);
        state(!overAll()[b][a]);
        remember();
        s.told.add(32 * a + b);
        return lineCount();
    }

    public int takeOff(int a, int b) {
        layer(a);
        layer(b);
        element(s.told.contains(32 * a + b));
        remember();
        s.told.remove(32 * a + b);
        return lineCount();
    }

    public boolean isAbove(int a, int b) {
        layer(a);
        layer(b);
        return overAll()[a][b];
    }

    public int lineCount() {
        return drawing().size();
    }

    public int lineAt(int index) {
        index(index >= 0 && index < lineCount());
        return drawing().get(index);
    }

    public long orders() {
        state(s.layers <= 14);
        int all = 0;
        for (int a = 1; a <= s.layers; a++) {
            all |= 1 << a;
        }
        return ordersOf(all, overAll(), new HashMap<>());
    }

    private long ordersOf(int left, boolean[][] over, HashMap<Integer, Long> known) {
        if (left == 0) {
            return 1;
        }
        Long before = known.get(left);
        if (before != null) {
            return before;
        }
        long sum = 0;
        for (int a = 1; a <= s.layers; a++) {
            if ((left >> a & 1) == 1 && isTop(a, left, over)) {
                sum += ordersOf(left & ~(1 << a), over, known);
            }
        }
        known.put(left, sum);
        return sum;
    }

    private boolean isTop(int a, int left, boolean[][] over) {
        for (int b = 1; b <= s.layers; b++) {
            if ((left >> b & 1) == 1 && over[b][a]) {
                return false;
            }
        }
        return true;
    }

    public int orderAt(int index) {
        index(index >= 0 && index < s.layers);
        boolean[][] over = overAll();
        TreeSet<Integer> left = new TreeSet<>();
        int set = 0;
        for (int a = 1; a <= s.layers; a++) {
            left.add(a);
            set |= 1 << a;
        }
        for (int place = 0;; place++) {
            int next = 0;
            for (int a : left.descendingSet()) {
                next = isTop(a, set, over) ? a : next;
            }
            if (place == index) {
                return next;
            }
            left.remove(next);
            set &= ~(1 << next);
        }
    }

    public int phase(int a) {
        layer(a);
        return chainAbove(a, new HashMap<>());
    }

    private int chainAbove(int a, HashMap<Integer, Integer> known) {
        if (known.containsKey(a)) {
            return known.get(a);
        }
        int most = 0;
        for (int pair : s.told) {
            if (pair % 32 == a) {
                most = Math.max(most, 1 + chainAbove(pair / 32, known));
            }
        }
        known.put(a, most);
        return most;
    }

    // ---- bands

    private void row(int row) {
        index(row == 0 || row == 1);
    }

    private void band(int row, int band) {
        index(band >= 0 && band < s.bands.get(row).size());
    }

    public int addBand(int row, int thickness, int mark) {
        row(row);
        argument(thickness >= 1 && thickness <= 9 && mark >= 0 && mark <= 3);
        state(s.bands.get(row).size() < 16);
        remember();
        s.bands.get(row).add(new Band(thickness, mark));
        return s.bands.get(row).size() - 1;
    }

    public int setPrices(int missed, int twice, int mark) {
        for (int price : new int[] {missed, twice, mark}) {
            argument(price >= 0 && price <= 20);
        }
        remember();
        int before = Arrays.stream(s.prices).sum();
        s.prices = new int[] {missed, twice, mark};
        return before;
    }

    public int tie(int first, int second) {
        band(0, first);
        band(1, second);
        state(!s.ties.containsKey(first) && !s.ties.containsValue(second));
        for (int other : s.ties.keySet()) {
            state(Integer.compare(other, first) == Integer.compare(s.ties.get(other), second));
        }
        remember();
        s.ties.put(first, second);
        return s.ties.size();
    }

    public int untie(int row, int band) {
        row(row);
        band(row, band);
        for (int first : s.ties.keySet()) {
            int second = s.ties.get(first);
            if (band == (row == 0 ? first : second)) {
                remember();
                s.ties.remove(first);
                return row == 0 ? second : first;
            }
        }
        throw new NoSuchElementException();
    }

    public int bandCount(int row) {
        row(row);
        return s.bands.get(row).size();
    }

    /** Where a step leads from a place, and its price; null if the step can't be made. */
    private int[] step(String kind, int i, int j) {
        int nextI = i + (kind.equals("DOUBLE_0") ? 2 : kind.equals("ONLY_1") ? 0 : 1);
        int nextJ = j + (kind.equals("DOUBLE_1") ? 2 : kind.equals("ONLY_0") ? 0 : 1);
        List<Band> row0 = s.bands.get(0);
        List<Band> row1 = s.bands.get(1);
        if (nextI > row0.size() || nextJ > row1.size()) {
            return null;
        }
        if (kind.equals("TOGETHER") && Integer.valueOf(j).equals(s.ties.get(i))) {
            return new int[] {nextI, nextJ, unlike(row0.subList(i, nextI), row1.subList(j, nextJ))};
        }
        for (int band = i; band < nextI; band++) {
            if (s.ties.containsKey(band)) {
                return null;
            }
        }
        for (int band = j; band < nextJ; band++) {
            if (s.ties.containsValue(band)) {
                return null;
            }
        }
        if (kind.startsWith("ONLY")) {
            return new int[] {nextI, nextJ, s.prices[0]};
        }
        int price = unlike(row0.subList(i, nextI), row1.subList(j, nextJ));
        return new int[] {nextI, nextJ, kind.equals("TOGETHER") ? price : price + s.prices[1]};
    }

    private int unlike(List<Band> some, List<Band> others) {
        int thickness = 0;
        boolean sameMark = false;
        for (Band a : some) {
            thickness += a.thickness();
            for (Band b : others) {
                sameMark |= a.mark() == b.mark();
            }
        }
        for (Band b : others) {
            thickness -= b.thickness();
        }
        return Math.abs(thickness) + (sameMark ? 0 : s.prices[2]);
    }

    /** Price and number of the best ways from a place on; null if none. */
    private long[] rest(int i, int j, HashMap<Integer, long[]> known) {
        if (i == s.bands.get(0).size() && j == s.bands.get(1).size()) {
            return new long[] {0, 1};
        }
        int key = 100 * i + j;
        if (known.containsKey(key)) {
            return known.get(key);
        }
        long[] best = null;
        for (String kind : STEPS) {
            int[] step = step(kind, i, j);
            long[] behind = step == null ? null : rest(step[0], step[1], known);
            if (behind != null) {
                long price = step[2] + behind[0];
                if (best == null || price < best[0]) {
                    best = new long[] {price, behind[1]};
                } else if (price == best[0]) {
                    best[1] += behind[1];
                }
            }
        }
        known.put(key, best);
        return best;
    }

    public int leastPrice() {
        return (int) rest(0, 0, new HashMap<>())[0];
    }

    public long bestWays() {
        return rest(0, 0, new HashMap<>())[1];
    }

    public int partner(int row, int band) {
        row(row);
        band(row, band);
        HashMap<Integer, long[]> known = new HashMap<>();
        int i = 0;
        int j = 0;
        while (true) {
            int[] taken = null;
            for (String kind : STEPS) {
                int[] step = step(kind, i, j);
                long[] behind = step == null ? null : rest(step[0], step[1], known);
                if (taken == null && behind != null && behind[0] + step[2] == rest(i, j, known)[0]) {
                    taken = step;
                }
            }
            if (band < taken[row]) {
                return taken[0] == i || taken[1] == j ? -1 : row == 0 ? j : i;
            }
            i = taken[0];
            j = taken[1];
        }
    }

    /** By the number of best ways that go through the step, told from the top and the bottom. */
    public boolean isSure(int first, int second) {
        band(0, first);
        band(1, second);
        HashMap<Integer, long[]> known = new HashMap<>();
        TreeMap<Integer, Long> waysTo = new TreeMap<>();
        waysTo.put(0, 1L);
        for (int i = 0; i <= first; i++) {
            for (int j = 0; j <= second; j++) {
                long ways = waysTo.getOrDefault(100 * i + j, 0L);
                for (String kind : STEPS) {
                    int[] step = step(kind, i, j);
                    long[] behind = step == null ? null : rest(step[0], step[1], known);
                    if (ways > 0 && behind != null && behind[0] + step[2] == rest(i, j, known)[0]) {
                        if (i == first && j == second && kind.equals("TOGETHER")) {
                            return ways * behind[1] == rest(0, 0, known)[1];
                        }
                        waysTo.merge(100 * step[0] + step[1], ways, Long::sum);
                    }
                }
            }
        }
        return false;
    }

    public int setDate(int row, int band, int age) {
        row(row);
        band(row, band);
        argument(age >= 0 && age <= 99999);
        TreeMap<Integer, Integer> dates = s.dates.get(row);
        for (int date : dates.headMap(band, false).values()) {
            state(date <= age);
        }
        for (int date : dates.tailMap(band, false).values()) {
            state(date >= age);
        }
        remember();
        Integer before = dates.put(band, age);
        return before == null ? -1 : before;
    }

    public int noDate(int row, int band) {
        row(row);
        band(row, band);
        element(s.dates.get(row).containsKey(band));
        remember();
        return s.dates.get(row).remove(band);
    }

    public int ageOf(int row, int band) {
        row(row);
        band(row, band);
        TreeMap<Integer, Integer> dates = s.dates.get(row);
        Integer a = dates.floorKey(band);
        Integer b = dates.ceilingKey(band);
        element(a != null && b != null);
        return a.equals(b) ? dates.get(a)
                : dates.get(a) + (dates.get(b) - dates.get(a)) * (band - a) / (b - a);
    }

    // ---- stakes

    private void zone(int zone) {
        index(zone >= 0 && zone < 8);
    }

    private void year(int year) {
        index(year >= 0 && year < 10);
    }

    public int setZone(int zone, int area, int part) {
        zone(zone);
        argument(area >= 1 && area <= 99 && part >= 0 && part <= 3);
        remember();
        int before = s.areas[zone];
        s.areas[zone] = area;
        s.parts[zone] = part;
        return before;
    }

    public int read(int zone, int year, int value) {
        zone(zone);
        year(year);
        argument(value >= -999 && value <= 999);
        remember();
        s.readings.get(year).put(zone, value);
        return s.readings.get(year).size();
    }

    public int noReading(int zone, int year) {
        zone(zone);
        year(year);
        element(s.readings.get(year).containsKey(zone));
        remember();
        return s.readings.get(year).remove(zone);
    }

    public int valueOf(int zone, int year) {
        int reason = reason(zone, year);
        TreeMap<Integer, Integer> read = s.readings.get(year);
        if (reason == 3) {
            return read.firstEntry().getValue();
        }
        int l = read.floorKey(zone);
        if (reason != 1) {
            return read.get(l);
        }
        int h = read.higherKey(zone);
        int rise = (read.get(h) - read.get(l)) * (zone - l);
        int steps = h - l;
        return read.get(l) + (int) Math.floor((double) rise / steps);
    }

    public int reason(int zone, int year) {
        zone(zone);
        year(year);
        TreeMap<Integer, Integer> read = s.readings.get(year);
        element(!read.isEmpty());
        if (read.containsKey(zone)) {
            return 0;
        }
        return zone > read.lastKey() ? 2 : zone < read.firstKey() ? 3 : 1;
    }

    public int balance(int year) {
        year(year);
        int sum = 0;
        for (int zone = 0; zone < 8; zone++) {
            sum += s.areas[zone] * valueOf(zone, year);
        }
        return sum;
    }

    public int partBalance(int part, int year) {
        index(part >= 0 && part <= 3);
        year(year);
        int sum = 0;
        for (int zone = 0; zone < 8; zone++) {
            sum += (s.parts[zone] == part ? s.areas[zone] : 0) * valueOf(zone, year);
        }
        return sum;
    }

    public int lineOf(int year) {
        year(year);
        element(!s.readings.get(year).isEmpty());
        int line = 8;
        while (line > 0 && valueOf(line - 1, year) >= 0) {
            line--;
        }
        return line;
    }

    // ---- ice

    public int setCell(int cell, int bed, int ice) {
        index(cell >= 0 && cell < 12);
        argument(bed >= 0 && bed <= 999 && ice >= 0 && ice <= 999);
        remember();
        int before = s.ice[cell];
        s.beds[cell] = bed;
        s.ice[cell] = ice;
        return before;
    }

    public int flow(int steps, int line, int snow, int melt) {
        argument(steps >= 1 && steps <= 50 && line >= 0 && line <= 2000);
        argument(snow >= 0 && snow <= 20 && melt >= 0 && melt <= 20);
        remember();
        for (int step = 0; step < steps; step++) {
            int[] begin = s.ice.clone();
            for (int cell = 0; cell < 12; cell++) {
                for (int side : new int[] {cell - 1, cell + 1}) {
                    if (side >= 0 && side < 12) {
                        int fall = s.beds[cell] + begin[cell] - s.beds[side] - begin[side];
                        if (fall > 0) {
                            int goes = Math.min(fall / 4, begin[cell] / 2);
                            s.ice[cell] -= goes;
                            s.ice[side] += goes;
                        }
                    }
                }
            }
            for (int cell = 0; cell < 12; cell++) {
                int before = s.ice[cell];
                s.ice[cell] = s.beds[cell] + before >= line ? before + snow : Math.max(0, before - melt);
                s.won += s.ice[cell] - before;
            }
        }
        return Arrays.stream(s.ice).sum();
    }

    public int iceOf(int cell) {
        index(cell >= 0 && cell < 12);
        return s.ice[cell];
    }

    public int won() {
        return s.won;
    }

    // ---- lines, undo, measures

    public int type(long bytes) {
        StringBuilder more = new StringBuilder();
        for (byte b : BigInteger.valueOf(bytes).toByteArray()) {
            if (b != 0) {
                argument(b >= 32 && b <= 126);
                more.append((char) b);
            }
        }
        state(text.length() + more.length() <= 80);
        text += more;
        return text.length();
    }

    private List<String> words() {
        List<String> words = new ArrayList<>();
        StringTokenizer tokens = new StringTokenizer(text, " ");
        while (tokens.hasMoreTokens()) {
            words.add(tokens.nextToken());
        }
        return words;
    }

    private static boolean isNumber(String word) {
        if (!word.matches("[+-]?[0-9]+")) {
            return false;
        }
        BigInteger number = new BigInteger(word);
        return number.equals(BigInteger.valueOf(number.intValue()));
    }

    private static int numbersOf(String name) {
        return switch (name) {
            case "least", "most", "band", "date" -> 3;
            case "on" -> 2;
            case "layer" -> 0;
            default -> -1;
        };
    }

    public int fault() {
        List<String> words = words();
        if (words.isEmpty() || numbersOf(words.get(0)) < 0) {
            return 0;
        }
        int numbers = numbersOf(words.get(0));
        for (int i = 1; i < words.size(); i++) {
            if (i > numbers || !isNumber(words.get(i))) {
                return i;
            }
        }
        return words.size() == numbers + 1 ? -1 : words.size();
    }

    public int doLine() {
        boolean good = fault() < 0;
        List<String> words = words();
        text = "";
        argument(good);
        int[] n = new int[4];
        for (int i = 1; i < words.size(); i++) {
            n[i] = Integer.parseInt(words.get(i));
        }
        return switch (words.get(0)) {
            case "least" -> least(n[1], n[2], n[3]);
            case "most" -> most(n[1], n[2], n[3]);
            case "on" -> layOn(n[1], n[2]);
            case "band" -> addBand(n[1], n[2], n[3]);
            case "date" -> setDate(n[1], n[2], n[3]);
            default -> addLayer();
        };
    }

    public int undo() {
        state(!past.isEmpty());
        s = past.removeLast();
        return past.size();
    }

    public int actCount() {
        return past.size();
    }

    public double meanValue(int year) {
        return (double) balance(year) / (double) Arrays.stream(s.areas).sum();
    }

    public float aboveShare() {
        if (s.layers < 2) {
            return 0.0f;
        }
        boolean[][] over = overAll();
        int some = 0;
        int all = 0;
        for (int a = 1; a <= s.layers; a++) {
            for (int b = a + 1; b <= s.layers; b++) {
                all++;
                some += over[a][b] || over[b][a] ? 1 : 0;
            }
        }
        return (float) some / (float) all;
    }

    public int errors() {
        return 0;
    }
}

import java.util.Arrays;

/** Rows of numbers at posts in a line, led along arrows by tables: ../shared/DOC.md has the promises. */
public final class SpanLoom {
    public static final int NONE = -1;

    private static final int LAYINGS = 8;
    private static final int MOST_POSTS = 8;
    private static final int MOST_SIZE = 4;
    private static final int TABLE = MOST_SIZE * MOST_SIZE;
    private static final int TABLES = (MOST_POSTS - 1) * TABLE;
    private static final int MOST_PLACES = 2 * MOST_SIZE;
    private static final int MOST_SPANS = MOST_POSTS * MOST_SIZE;
    private static final int MOST_TREE = 9;
    private static final int FINITE = 1;
    private static final int TAME = 2;
    private static final int WILD = 3;
    private static final int[] PRIMES = {2, 3, 5, 7, 11, 13};

    private final int prime;
    private final int posts;
    private final Laying[] layings;
    private final Laying spare;
    private final Rows rows;
    private final Parting parting;
    private final Spans ones;
    private final Spans others;
    private final Pairing pairing;
    private final Tree tree;

    public SpanLoom(int prime, int posts) {
        this.prime = greatestPrime(prime);
        this.posts = Math.max(1, Math.min(MOST_POSTS, posts));
        this.layings = new Laying[LAYINGS];
        for (int l = 0; l < LAYINGS; l++) {
            this.layings[l] = new Laying();
        }
        this.spare = new Laying();
        this.rows = new Rows(this.prime);
        this.parting = new Parting(this.prime, this.posts);
        this.ones = new Spans();
        this.others = new Spans();
        this.pairing = new Pairing();
        this.tree = new Tree();
    }

    public boolean lay(int l, int ways, int sizes) {
        if (!isLaying(l) || !areWays(ways) || !areSizes(sizes)) {
            return false;
        }
        Laying laying = layings[l];
        laying.empty(ways);
        for (int post = 0; post < posts; post++) {
            laying.sizes[post] = sizeIn(sizes, post);
        }
        return true;
    }

    public boolean set(int l, int arrow, int row, int column, int v) {
        if (!isCell(l, arrow, row, column)) {
            return false;
        }
        layings[l].put(arrow, row, column, Math.floorMod(v, prime));
        return true;
    }

    public int get(int l, int arrow, int row, int column) {
        return isCell(l, arrow, row, column) ? layings[l].number(arrow, row, column) : NONE;
    }

    public int size(int l, int post) {
        return isLaying(l) && isPost(post) ? layings[l].sizes[post] : NONE;
    }

    public int ways(int l) {
        return isLaying(l) ? layings[l].lefts : NONE;
    }

    public boolean span(int l, int ways, int a, int b) {
        if (!isLaying(l) || !areWays(ways) || !isSpan(a, b)) {
            return false;
        }
        Laying laying = layings[l];
        laying.empty(ways);
        for (int post = a; post <= b; post++) {
            laying.sizes[post] = 1;
        }
        for (int arrow = a; arrow < b; arrow++) {
            laying.put(arrow, 0, 0, 1);
        }
        return true;
    }

    public boolean beside(int a, int b, int to) {
        if (!isLaying(to) || !haveSameWays(a, b) || !fitBeside(layings[a], layings[b])) {
            return false;
        }
        // The laying that is written may be a or b itself, so it is made apart from them.
        spare.empty(layings[a].lefts);
        for (int post = 0; post < posts; post++) {
            spare.sizes[post] = layings[a].sizes[post] + layings[b].sizes[post];
        }
        for (int arrow = 0; arrow < posts - 1; arrow++) {
            spare.putTable(layings[a], arrow, 0, 0);
            spare.putTable(layings[b], arrow, layings[a].rowsOf(arrow), layings[a].columnsOf(arrow));
        }
        layings[to].copy(spare);
        return true;
    }

    public boolean mix(int l, int post, int i, int j, int c) {
        if (!isLaying(l) || !isPost(post) || i == j || c < 0 || c >= prime) {
            return false;
        }
        Laying laying = layings[l];
        if (!isBelow(i, laying.sizes[post]) || !isBelow(j, laying.sizes[post])) {
            return false;
        }
        for (int arrow = post - 1; arrow <= post; arrow++) {
            if (isArrow(arrow) && laying.target(arrow) == post) {
                addRow(laying, arrow, i, j, c);
            } else if (isArrow(arrow)) {
                addColumn(laying, arrow, j, i, prime - c);
            }
        }
        return true;
    }

    public int turn(int l, int post, int to) {
        if (!isLaying(l) || !isLaying(to) || !isPost(post) || !isTurning(layings[l], post)) {
            return NONE;
        }
        Laying from = layings[l];
        boolean in = from.target(post > 0 ? post - 1 : post) == post;
        gatherBeside(from, post, in);
        rows.bringToLeast();
        int free = rows.freeCount();
        if (free > MOST_SIZE) {
            return NONE;
        }
        // The turned one may replace l itself, so it is made apart from it.
        spare.copy(from);
        spare.sizes[post] = free;
        int left = post > 0 ? from.sizes[post - 1] : 0;
        if (isArrow(post - 1)) {
            putTurned(post - 1, in, 0, left);
        }
        if (isArrow(post)) {
            putTurned(post, in, left, from.sizes[post + 1]);
        }
        layings[to].copy(spare);
        return free;
    }

    public int maps(int a, int b) {
        if (!haveSameWays(a, b)) {
            return NONE;
        }
        parting.part(layings[a], ones);
        parting.part(layings[b], others);
        return mapsOfSpans(layings[a]);
    }

    public int bends(int a, int b) {
        if (!haveSameWays(a, b)) {
            return NONE;
        }
        parting.part(layings[a], ones);
        parting.part(layings[b], others);
        return mapsOfSpans(layings[a]) - form(a, b);
    }

    public int form(int a, int b) {
        if (!isLaying(a) || !isLaying(b)) {
            return 0;
        }
        int[] x = layings[a].sizes;
        int[] y = layings[b].sizes;
        int sum = 0;
        for (int post = 0; post < posts; post++) {
            sum += x[post] * y[post];
        }
        for (int arrow = 0; arrow < posts - 1; arrow++) {
            sum -= x[layings[a].source(arrow)] * y[layings[a].target(arrow)];
        }
        return sum;
    }

    public int spans(int l, int a, int b) {
        if (!isLaying(l) || !isSpan(a, b)) {
            return NONE;
        }
        return parting.times(layings[l], a, b);
    }

    public boolean like(int a, int b) {
        if (!haveSameWays(a, b)) {
            return false;
        }
        parting.part(layings[a], ones);
        parting.part(layings[b], others);
        return ones.areSame(others);
    }

    public int rank(int l, int a, int b) {
        if (!isLaying(l) || !isPost(a) || !isPost(b) || !isLed(layings[l], a, b)) {
            return NONE;
        }
        return parting.covering(layings[l], Math.min(a, b), Math.max(a, b));
    }

    public int far(int a, int b) {
        if (!haveSameWays(a, b) || layings[a].lefts != 0) {
            return NONE;
        }
        parting.part(layings[a], ones);
        parting.part(layings[b], others);
        return pairing.leastCost(ones, others, posts);
    }

    public int kind(int n, int parents) {
        return tree.read(n, parents) ? tree.kindOf() : NONE;
    }

    public int roots(int n, int parents) {
        if (!tree.read(n, parents)) {
            return NONE;
        }
        return tree.kindOf() == FINITE ? tree.rootCount() : 0;
    }

    public int count(int what) {
        switch (what) {
            case 0:
                return prime;
            case 1:
                return posts;
            default:
                return NONE;
        }
    }

    private static int greatestPrime(int most) {
        int found = PRIMES[0];
        for (int candidate : PRIMES) {
            if (candidate <= most) {
                found = candidate;
            }
        }
        return found;
    }

    private static boolean isBelow(int index, int bound) {
        return index >= 0 && index < bound;
    }

    private boolean isLaying(int l) {
        return isBelow(l, LAYINGS);
    }

    private boolean isPost(int post) {
        return isBelow(post, posts);
    }

    private boolean isArrow(int arrow) {
        return isBelow(arrow, posts - 1);
    }

    private boolean isSpan(int a, int b) {
        return isPost(a) && isPost(b) && a <= b;
    }

    private boolean isCell(int l, int arrow, int row, int column) {
        return isLaying(l) && isArrow(arrow)
                && isBelow(row, layings[l].rowsOf(arrow))
                && isBelow(column, layings[l].columnsOf(arrow));
    }

    private boolean areWays(int ways) {
        return ways >= 0 && ways >> (posts - 1) == 0;
    }

    private static int sizeIn(int sizes, int post) {
        return sizes >> (3 * post) & 7;
    }

    private boolean areSizes(int sizes) {
        if (sizes < 0 || sizes >> (3 * posts) != 0) {
            return false;
        }
        for (int post = 0; post < posts; post++) {
            if (sizeIn(sizes, post) > MOST_SIZE) {
                return false;
            }
        }
        return true;
    }

    private boolean haveSameWays(int a, int b) {
        return isLaying(a) && isLaying(b) && layings[a].lefts == layings[b].lefts;
    }

    private boolean fitBeside(Laying a, Laying b) {
        for (int post = 0; post < posts; post++) {
            if (a.sizes[post] + b.sizes[post] > MOST_SIZE) {
                return false;
            }
        }
        return true;
    }

    private void addRow(Laying laying, int arrow, int row, int added, int c) {
        int columns = laying.columnsOf(arrow);
        for (int column = 0; column < columns; column++) {
            int sum = laying.number(arrow, row, column) + c * laying.number(arrow, added, column);
            laying.put(arrow, row, column, sum % prime);
        }
    }

    private void addColumn(Laying laying, int arrow, int column, int added, int c) {
        int height = laying.rowsOf(arrow);
        for (int row = 0; row < height; row++) {
            int sum = laying.number(arrow, row, column) + c * laying.number(arrow, row, added);
            laying.put(arrow, row, column, sum % prime);
        }
    }

    private boolean isTurning(Laying laying, int post) {
        if (posts == 1) {
            return false;
        }
        if (!isArrow(post - 1) || !isArrow(post)) {
            return true;
        }
        return laying.isLeft(post - 1) != laying.isLeft(post);
    }

    /** Tables that come from the post are taken with their columns as rows, as the turn out asks. */
    private void gatherBeside(Laying from, int post, boolean in) {
        int left = isArrow(post - 1) ? from.sizes[post - 1] : 0;
        int right = isArrow(post) ? from.sizes[post + 1] : 0;
        rows.start(from.sizes[post], left + right);
        for (int row = 0; row < from.sizes[post]; row++) {
            for (int place = 0; place < left; place++) {
                rows.put(row, place, from.numberBeside(post - 1, in, row, place));
            }
            for (int place = 0; place < right; place++) {
                rows.put(row, left + place, from.numberBeside(post, in, row, place));
            }
        }
    }

    /** The table of an arrow that now leads the other way, for the places from first on that are its post's. */
    private void putTurned(int arrow, boolean in, int first, int places) {
        spare.reverse(arrow);
        int index = 0;
        for (int free = 0; free < rows.width; free++) {
            if (!rows.isFree(free)) {
                continue;
            }
            for (int place = 0; place < places; place++) {
                int v = rows.rest(first + place, free);
                if (in) {
                    spare.put(arrow, place, index, v);
                } else {
                    spare.put(arrow, index, place, v);
                }
            }
            index++;
        }
    }

    private int mapsOfSpans(Laying laying) {
        int sum = 0;
        for (int one = 0; one < ones.count; one++) {
            for (int other = 0; other < others.count; other++) {
                if (isMapped(laying, one, other)) {
                    sum++;
                }
            }
        }
        return sum;
    }

    /**
     * Whether there is a map that isn't 0 from a span to another one: it is one number where both are,
     * and no arrow over the rim of these posts may lead it on, or lead to it from elsewhere.
     */
    private boolean isMapped(Laying laying, int one, int other) {
        int a = ones.starts[one];
        int b = ones.ends[one];
        int c = others.starts[other];
        int d = others.ends[other];
        int low = Math.max(a, c);
        int high = Math.min(b, d);
        if (low > high) {
            return false;
        }
        if (a != c && laying.isLeft(low - 1) != (a < c)) {
            return false;
        }
        return b == d || laying.isLeft(high) == (b < d);
    }

    private static boolean isLed(Laying laying, int a, int b) {
        int high = Math.max(a, b);
        for (int arrow = Math.min(a, b); arrow < high; arrow++) {
            if (laying.isLeft(arrow) != (a > b)) {
                return false;
            }
        }
        return true;
    }

    /** Sizes at posts, and a table for each arrow. */
    private static final class Laying {
        private final int[] sizes = new int[MOST_POSTS];
        private final int[] numbers = new int[TABLES];
        private int lefts;

        void empty(int lefts) {
            this.lefts = lefts;
            Arrays.fill(sizes, 0);
            Arrays.fill(numbers, 0);
        }

        void copy(Laying other) {
            lefts = other.lefts;
            System.arraycopy(other.sizes, 0, sizes, 0, MOST_POSTS);
            System.arraycopy(other.numbers, 0, numbers, 0, TABLES);
        }

        boolean isLeft(int arrow) {
            return (lefts >> arrow & 1) == 1;
        }

        int source(int arrow) {
            return isLeft(arrow) ? arrow + 1 : arrow;
        }

        int target(int arrow) {
            return isLeft(arrow) ? arrow : arrow + 1;
        }

        int rowsOf(int arrow) {
            return sizes[target(arrow)];
        }

        int columnsOf(int arrow) {
            return sizes[source(arrow)];
        }

        int number(int arrow, int row, int column) {
            return numbers[arrow * TABLE + row * MOST_SIZE + column];
        }

        /** With in false, row and column of the table change places. */
        int numberBeside(int arrow, boolean in, int row, int column) {
            return in ? number(arrow, row, column) : number(arrow, column, row);
        }

        void put(int arrow, int row, int column, int v) {
            numbers[arrow * TABLE + row * MOST_SIZE + column] = v;
        }

        void putTable(Laying other, int arrow, int top, int left) {
            int height = other.rowsOf(arrow);
            int columns = other.columnsOf(arrow);
            for (int row = 0; row < height; row++) {
                for (int column = 0; column < columns; column++) {
                    put(arrow, top + row, left + column, other.number(arrow, row, column));
                }
            }
        }

        /** The old table says nothing of the arrow that leads back, so it is emptied. */
        void reverse(int arrow) {
            lefts ^= 1 << arrow;
            for (int cell = 0; cell < TABLE; cell++) {
                numbers[arrow * TABLE + cell] = 0;
            }
        }
    }

    /** A few rows of numbers that are brought to least rows where they stand. */
    private static final class Rows {
        private final int prime;
        private final int[][] cells = new int[MOST_SIZE][MOST_PLACES];
        private final int[] headRows = new int[MOST_PLACES];
        private int count;
        private int width;

        Rows(int prime) {
            this.prime = prime;
        }

        void start(int count, int width) {
            this.count = Math.min(count, MOST_SIZE);
            this.width = Math.min(width, MOST_PLACES);
            Arrays.fill(headRows, NONE);
        }

        /** The rows of a space that has every column of numbers. */
        void startWhole(int size) {
            start(size, size);
            for (int row = 0; row < count; row++) {
                Arrays.fill(cells[row], 0);
                cells[row][row] = 1;
                headRows[row] = row;
            }
        }

        int number(int row, int place) {
            return cells[row][place];
        }

        void put(int row, int place, int v) {
            cells[row][place] = v;
        }

        void bringToLeast() {
            int done = 0;
            for (int place = 0; place < width && done < count; place++) {
                int found = rowWithNumber(place, done);
                if (found != NONE) {
                    swap(found, done);
                    scale(done, inverse(cells[done][place]), place);
                    clearElsewhere(done, place);
                    headRows[place] = done;
                    done++;
                }
            }
            count = done;
        }

        private int rowWithNumber(int place, int first) {
            for (int row = first; row < count; row++) {
                if (cells[row][place] != 0) {
                    return row;
                }
            }
            return NONE;
        }

        private void swap(int one, int other) {
            int[] row = cells[one];
            cells[one] = cells[other];
            cells[other] = row;
        }

        private void scale(int row, int factor, int first) {
            if (factor == 1) {
                return;
            }
            int[] scaled = cells[row];
            for (int place = first; place < width; place++) {
                scaled[place] = scaled[place] * factor % prime;
            }
        }

        private int inverse(int v) {
            for (int candidate = 1; candidate < prime; candidate++) {
                if (candidate * v % prime == 1) {
                    return candidate;
                }
            }
            return 1;
        }

        private void clearElsewhere(int head, int first) {
            int[] taken = cells[head];
            for (int row = 0; row < count; row++) {
                int[] cleared = cells[row];
                if (row == head || cleared[first] == 0) {
                    continue;
                }
                int factor = prime - cleared[first];
                for (int place = first; place < width; place++) {
                    cleared[place] = (cleared[place] + factor * taken[place]) % prime;
                }
            }
        }

        boolean isFree(int place) {
            return headRows[place] == NONE;
        }

        int freeCount() {
            return width - count;
        }

        /**
         * Of the column that is 1 at a place alone, what is at a FREE place when least rows are taken away.
         * It is also what is at the place in the column that all rows lead to 0 and that belongs to the FREE one.
         */
        int rest(int place, int free) {
            if (place == free) {
                return 1;
            }
            int row = headRows[place];
            return row == NONE || cells[row][free] == 0 ? 0 : prime - cells[row][free];
        }
    }

    /** Spans with each as often as it is there, by their starts and then by their ends. */
    private static final class Spans {
        private final int[] starts = new int[MOST_SPANS];
        private final int[] ends = new int[MOST_SPANS];
        private int count;

        void clear() {
            count = 0;
        }

        void add(int start, int end) {
            if (count < MOST_SPANS) {
                starts[count] = start;
                ends[count] = end;
                count++;
            }
        }

        boolean areSame(Spans other) {
            if (count != other.count) {
                return false;
            }
            for (int k = 0; k < count; k++) {
                if (starts[k] != other.starts[k] || ends[k] != other.ends[k]) {
                    return false;
                }
            }
            return true;
        }
    }

    /**
     * Parts layings into spans. Of a post's whole space, led along to a later post (back along arrows that
     * point left), what goes beyond that to which 0 is led comes from the spans that hold both posts.
     */
    private static final class Parting {
        private final int prime;
        private final int posts;
        /** At [a + 1][b + 1] how many spans hold a and b: the rim of 0 stands for posts that are not there. */
        private final int[][] covers = new int[MOST_POSTS + 2][MOST_POSTS + 2];
        private final Rows conditions;
        private Rows whole;
        private Rows nothing;
        private Rows next;

        Parting(int prime, int posts) {
            this.prime = prime;
            this.posts = posts;
            this.conditions = new Rows(prime);
            this.whole = new Rows(prime);
            this.nothing = new Rows(prime);
            this.next = new Rows(prime);
        }

        void part(Laying laying, Spans spans) {
            for (int start = 0; start < posts; start++) {
                coverFrom(laying, start, posts - 1);
            }
            spans.clear();
            for (int start = 0; start < posts; start++) {
                for (int end = start; end < posts; end++) {
                    int times = timesByCovers(start, end);
                    for (int k = 0; k < times; k++) {
                        spans.add(start, end);
                    }
                }
            }
        }

        int times(Laying laying, int start, int end) {
            int last = Math.min(end + 1, posts - 1);
            if (start > 0) {
                coverFrom(laying, start - 1, last);
            }
            coverFrom(laying, start, last);
            return timesByCovers(start, end);
        }

        int covering(Laying laying, int start, int end) {
            coverFrom(laying, start, end);
            return covers[start + 1][end + 1];
        }

        private int timesByCovers(int start, int end) {
            return covers[start + 1][end + 1] - covers[start][end + 1]
                    - covers[start + 1][end + 2] + covers[start][end + 2];
        }

        private void coverFrom(Laying laying, int start, int last) {
            int[] covering = covers[start + 1];
            Arrays.fill(covering, 0);
            whole.startWhole(laying.sizes[start]);
            nothing.start(0, laying.sizes[start]);
            covering[start + 1] = whole.count;
            for (int arrow = start; arrow < last && covering[arrow + 1] > 0; arrow++) {
                whole = lead(laying, arrow, whole);
                nothing = lead(laying, arrow, nothing);
                covering[arrow + 2] = whole.count - nothing.count;
            }
        }

        /** The rows that were led are the next ones to be written over. */
        private Rows lead(Laying laying, int arrow, Rows space) {
            Rows led = next;
            if (laying.isLeft(arrow)) {
                findConditions(laying, arrow, space);
                conditions.bringToLeast();
                solveConditions(led);
            } else {
                leadAlong(laying, arrow, space, led);
            }
            led.bringToLeast();
            next = space;
            return led;
        }

        private void leadAlong(Laying laying, int arrow, Rows space, Rows led) {
            led.start(space.count, laying.sizes[arrow + 1]);
            for (int row = 0; row < led.count; row++) {
                for (int place = 0; place < led.width; place++) {
                    int sum = 0;
                    for (int from = 0; from < space.width; from++) {
                        sum += laying.number(arrow, place, from) * space.number(row, from);
                    }
                    led.put(row, place, sum % prime);
                }
            }
        }

        /** What a column has to fulfil so that an arrow to the left leads it into the space. */
        private void findConditions(Laying laying, int arrow, Rows space) {
            conditions.start(space.freeCount(), laying.sizes[arrow + 1]);
            int row = 0;
            for (int free = 0; free < space.width; free++) {
                if (!space.isFree(free)) {
                    continue;
                }
                for (int column = 0; column < conditions.width; column++) {
                    int sum = 0;
                    for (int place = 0; place < space.width; place++) {
                        sum += space.rest(place, free) * laying.number(arrow, place, column);
                    }
                    conditions.put(row, column, sum % prime);
                }
                row++;
            }
        }

        private void solveConditions(Rows led) {
            led.start(conditions.freeCount(), conditions.width);
            int row = 0;
            for (int free = 0; free < conditions.width; free++) {
                if (conditions.isFree(free)) {
                    for (int place = 0; place < led.width; place++) {
                        led.put(row, place, conditions.rest(place, free));
                    }
                    row++;
                }
            }
        }
    }

    /** Pairs spans of two lists so that the greatest cost is least. */
    private static final class Pairing {
        private final int[] pairOfOne = new int[MOST_SPANS];
        private final int[] pairOfOther = new int[MOST_SPANS];
        private final int[] reachedFrom = new int[MOST_SPANS];
        private final int[] waiting = new int[MOST_SPANS];

        /**
         * A pairing of the dear ones of the first list and one of the dear ones of the second list can always
         * be joined to one for both (Mendelsohn and Dulmage), so each list is looked at by itself.
         */
        int leastCost(Spans first, Spans second, int posts) {
            for (int most = 0; most < posts; most++) {
                if (canPair(first, second, most) && canPair(second, first, most)) {
                    return most;
                }
            }
            return posts;
        }

        private boolean canPair(Spans ones, Spans others, int most) {
            Arrays.fill(pairOfOne, NONE);
            Arrays.fill(pairOfOther, NONE);
            for (int one = 0; one < ones.count; one++) {
                boolean dear = ones.ends[one] - ones.starts[one] + 1 > most;
                if (dear && !pair(ones, others, one, most)) {
                    return false;
                }
            }
            return true;
        }

        /** Searches the shortest chain of pairs to change that frees a partner for the first one. */
        private boolean pair(Spans ones, Spans others, int first, int most) {
            Arrays.fill(reachedFrom, NONE);
            waiting[0] = first;
            int known = 1;
            for (int k = 0; k < known; k++) {
                for (int other = 0; other < others.count; other++) {
                    if (reachedFrom[other] != NONE || cost(ones, waiting[k], others, other) > most) {
                        continue;
                    }
                    reachedFrom[other] = waiting[k];
                    if (pairOfOther[other] == NONE) {
                        change(other);
                        return true;
                    }
                    if (known < MOST_SPANS) {
                        waiting[known] = pairOfOther[other];
                        known++;
                    }
                }
            }
            return false;
        }

        private static int cost(Spans ones, int one, Spans others, int other) {
            int starts = Math.abs(ones.starts[one] - others.starts[other]);
            int ends = Math.abs(ones.ends[one] - others.ends[other]);
            return 2 * Math.max(starts, ends);
        }

        private void change(int last) {
            int other = last;
            for (int k = 0; k < MOST_SPANS && other != NONE && reachedFrom[other] != NONE; k++) {
                int one = reachedFrom[other];
                int before = pairOfOne[one];
                pairOfOne[one] = other;
                pairOfOther[other] = one;
                other = before;
            }
        }
    }

    /** A tree whose posts, but for the first one, are each joined with an earlier one. */
    private static final class Tree {
        private final int[] parent = new int[MOST_TREE];
        private final int[] lines = new int[MOST_TREE];
        private final int[] above = new int[MOST_TREE];
        private final int[] below = new int[MOST_TREE];
        private int size;

        boolean read(int n, int parents) {
            if (n < 1 || n > MOST_TREE || parents < 0) {
                return false;
            }
            size = n;
            int digits = parents;
            for (int post = 1; post < n; post++) {
                parent[post] = digits % 10;
                if (parent[post] >= post) {
                    return false;
                }
                digits /= 10;
            }
            return digits == 0;
        }

        /**
         * Squares are made whole from the last post to the first one. What twice the form keeps of a post's
         * square is above / below; where that isn't above 0 and a line is left, the form goes below 0.
         */
        int kindOf() {
            Arrays.fill(above, 2);
            Arrays.fill(below, 1);
            for (int post = size - 1; post > 0; post--) {
                if (above[post] <= 0) {
                    return WILD;
                }
                int to = parent[post];
                above[to] = above[to] * above[post] - below[to] * below[post];
                below[to] *= above[post];
            }
            if (above[0] > 0) {
                return FINITE;
            }
            return above[0] == 0 ? TAME : WILD;
        }

        /** FINITE trees are a line, a line with a fork of two at one end, or one of three others. */
        int rootCount() {
            countLines();
            int branch = branchPost();
            if (branch == NONE) {
                return size * (size + 1) / 2;
            }
            if (endsBeside(branch) >= 2) {
                return size * (size - 1);
            }
            switch (size) {
                case 6:
                    return 36;
                case 7:
                    return 63;
                default:
                    return 120;
            }
        }

        private void countLines() {
            Arrays.fill(lines, 0);
            for (int post = 1; post < size; post++) {
                lines[post]++;
                lines[parent[post]]++;
            }
        }

        private int branchPost() {
            for (int post = 0; post < size; post++) {
                if (lines[post] > 2) {
                    return post;
                }
            }
            return NONE;
        }

        private int endsBeside(int branch) {
            int ends = 0;
            for (int post = 1; post < size; post++) {
                boolean outward = parent[post] == branch && lines[post] == 1;
                boolean inward = post == branch && lines[parent[post]] == 1;
                if (outward || inward) {
                    ends++;
                }
            }
            return ends;
        }
    }
}

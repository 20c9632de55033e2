import java.util.ArrayList;
import java.util.Arrays;
import java.util.List;
import java.util.NoSuchElementException;
import java.util.TreeSet;

/**
 * The document once more, as naive as it can be: plans by moving beginnings until all waits are kept, cells and
 * days in sets, rows one by one, the cost by a simplex table. RandomRunsTest compares the two.
 */
final class Reference {
    private static final class Work {
        int time;
        int least;
        int price;
        int means;
        final int[] delay = new int[4];
    }

    /** A wait: work, other, sort, lag. */
    private List<int[]> waits = new ArrayList<>();
    private List<Work> works = new ArrayList<>();
    private final StringBuilder text = new StringBuilder();
    private int kind;
    private int place;
    private final boolean[] rest = new boolean[7];
    private final TreeSet<Integer> free = new TreeSet<>();
    private final List<int[]> plates = new ArrayList<>();
    /** A block: length, width, height, weight, and x, y, z if it is put. */
    private final List<int[]> blocks = new ArrayList<>();
    private final List<Integer> slips = new ArrayList<>();
    /** A stand: slip, place, length, day, days. */
    private final List<int[]> stands = new ArrayList<>();
    private final List<Integer> cranes = new ArrayList<>();
    /** A lift: crane, day, place. */
    private final List<int[]> lifts = new ArrayList<>();

    private static void argument(boolean isFine) {
        if (!isFine) {
            throw new IllegalArgumentException();
        }
    }

    private static void state(boolean isFine) {
        if (!isFine) {
            throw new IllegalStateException();
        }
    }

    private static void exists(int number, List<?> of) {
        if (number < 0 || number >= of.size()) {
            throw new IndexOutOfBoundsException();
        }
    }

    private static boolean in(long value, long from, long upTo) {
        return from <= value && value <= upTo;
    }

    // texts

    int type(long bytes) {
        StringBuilder more = new StringBuilder();
        for (int k = 7; k >= 0; k--) {
            long sign = bytes >> 8 * k & 0xFF;
            if (sign != 0) {
                more.append((char) sign);
            }
        }
        state(text.length() + more.length() <= 200);
        text.append(more);
        return text.length();
    }

    int clearText() {
        int before = text.length();
        text.setLength(0);
        return before;
    }

    int errorKind() {
        parse(new ArrayList<>(), new ArrayList<>());
        return kind;
    }

    int errorPlace() {
        parse(new ArrayList<>(), new ArrayList<>());
        return place;
    }

    int read() {
        List<Work> newWorks = new ArrayList<>();
        List<int[]> newWaits = new ArrayList<>();
        parse(newWorks, newWaits);
        state(kind == 0);
        works = newWorks;
        waits = newWaits;
        return works.size();
    }

    /** A sign or a number and where it begins; the last token is the end. */
    private static final class Token {
        int at;
        char sign;
        boolean isNumber;
        int value;
    }

    private List<Token> tokens() {
        List<Token> all = new ArrayList<>();
        int k = 0;
        while (k < text.length()) {
            char sign = text.charAt(k);
            Token token = new Token();
            token.at = k;
            token.sign = sign;
            if (sign == ' ') {
                k++;
                continue;
            }
            if (Character.digit(sign, 10) >= 0 && sign < 128) {
                int end = k;
                while (end < text.length() && text.charAt(end) >= '0' && text.charAt(end) <= '9') {
                    end++;
                }
                token.isNumber = true;
                String digits = text.substring(k, end).replaceFirst("^0+", "0");
                token.value = digits.length() > 8 ? 99999999 : Integer.parseInt(digits);
                k = end;
            } else {
                k++;
            }
            all.add(token);
        }
        Token end = new Token();
        end.at = text.length();
        end.sign = 0;
        all.add(end);
        return all;
    }

    private void fail(int itsKind, int itsPlace) {
        kind = itsKind;
        place = itsPlace;
    }

    private static boolean letter(Token token) {
        return !token.isNumber && in(token.sign, 'a', 'p');
    }

    private void parse(List<Work> newWorks, List<int[]> newWaits) {
        List<Token> t = tokens();
        fail(0, -1);
        int k = 0;
        while (true) {
            Token one = t.get(k++);
            if (!letter(one)) {
                fail(1, one.at);
                return;
            }
            Token two = t.get(k++);
            int sort = two.sign == 0 || two.isNumber ? -1 : ">^_<".indexOf(two.sign);
            if (!two.isNumber && two.sign == '=') {
                if (one.sign - 'a' != newWorks.size()) {
                    fail(3, one.at);
                    return;
                }
                Token time = t.get(k++);
                if (!number(time, 60)) {
                    return;
                }
                Work work = new Work();
                work.time = time.value;
                work.least = time.value;
                if (t.get(k).sign == '/') {
                    Token least = t.get(k + 1);
                    k += 2;
                    if (!number(least, time.value)) {
                        return;
                    }
                    work.least = least.value;
                }
                newWorks.add(work);
            } else if (sort >= 0) {
                if (one.sign - 'a' >= newWorks.size()) {
                    fail(3, one.at);
                    return;
                }
                Token three = t.get(k++);
                if (!letter(three)) {
                    fail(1, three.at);
                    return;
                }
                if (three.sign - 'a' >= newWorks.size()) {
                    fail(3, three.at);
                    return;
                }
                int[] wait = {three.sign - 'a', one.sign - 'a', sort, 0};
                newWaits.add(wait);
                if (circles(newWaits) || newWaits.size() > 40) {
                    fail(4, three.at);
                    return;
                }
                if (t.get(k).sign == '+') {
                    Token lag = t.get(k + 1);
                    k += 2;
                    if (!number(lag, 30)) {
                        return;
                    }
                    wait[3] = lag.value;
                }
            } else {
                fail(1, two.at);
                return;
            }
            Token end = t.get(k++);
            if (end.sign == 0) {
                return;
            }
            if (end.isNumber || end.sign != ';') {
                fail(1, end.at);
                return;
            }
        }
    }

    private boolean number(Token token, int most) {
        if (!token.isNumber) {
            fail(1, token.at);
            return false;
        }
        if (token.value > most) {
            fail(2, token.at);
            return false;
        }
        return true;
    }

    private static boolean circles(List<int[]> all) {
        List<int[]> left = new ArrayList<>(all);
        boolean isMoving = true;
        while (isMoving) {
            // a wait whose work no other work waits for is in no circle
            isMoving = left.removeIf(wait -> left.stream().noneMatch(next -> next[1] == wait[0]));
        }
        return !left.isEmpty();
    }

    // nets

    int work(int time, int least, int price, int means) {
        argument(in(time, 0, 60) && in(least, 0, time) && in(price, 0, 1000) && in(means, 0, 9));
        state(works.size() < 16);
        Work work = new Work();
        work.time = time;
        work.least = least;
        work.price = price;
        work.means = means;
        works.add(work);
        return works.size() - 1;
    }

    int set(int number, int what, int value) {
        exists(number, works);
        Work work = works.get(number);
        int was = 0;
        switch (what) {
            case 0:
                argument(in(value, work.least, 60));
                was = work.time;
                work.time = value;
                return was;
            case 1:
                argument(in(value, 0, work.time));
                was = work.least;
                work.least = value;
                return was;
            case 2:
                argument(in(value, 0, 1000));
                was = work.price;
                work.price = value;
                return was;
            case 3:
                argument(in(value, 0, 9));
                was = work.means;
                work.means = value;
                return was;
            default:
                throw new IllegalArgumentException();
        }
    }

    int waits(int work, int other, int sort, int lag) {
        exists(work, works);
        exists(other, works);
        argument(in(sort, 0, 3) && in(lag, 0, 30));
        List<int[]> more = new ArrayList<>(waits);
        more.add(new int[] {work, other, sort, lag});
        state(!circles(more) && more.size() <= 40);
        waits = more;
        return waits.size();
    }

    int drop(int wait) {
        exists(wait, waits);
        waits.remove(wait);
        return waits.size();
    }

    int clearNet() {
        int before = works.size();
        works.clear();
        waits.clear();
        return before;
    }

    int works() {
        return works.size();
    }

    private int[] times() {
        return times(0);
    }

    private int[] times(int causers) {
        int[] times = new int[works.size()];
        for (int k = 0; k < times.length; k++) {
            times[k] = works.get(k).time;
            for (int causer = 0; causer < 4; causer++) {
                times[k] += (causers & 1 << causer) != 0 ? works.get(k).delay[causer] : 0;
            }
        }
        return times;
    }

    private int[] leastTimes() {
        return works.stream().mapToInt(work -> work.least).toArray();
    }

    /** The least beginning of the work that waits that one wait tells. */
    private static int told(int[] wait, int[] begins, int[] times) {
        int other = begins[wait[1]];
        switch (wait[2]) {
            case 0:
                return other + times[wait[1]] + wait[3];
            case 1:
                return other + wait[3];
            case 2:
                return other + times[wait[1]] + wait[3] - times[wait[0]];
            default:
                return other + wait[3] - times[wait[0]];
        }
    }

    private boolean kept(int[] begins, int[] times) {
        for (int[] wait : waits) {
            if (begins[wait[0]] < told(wait, begins, times)) {
                return false;
            }
        }
        return true;
    }

    private int[] earliest(int[] times) {
        int[] begins = new int[times.length];
        while (!kept(begins, times)) {
            for (int[] wait : waits) {
                begins[wait[0]] = Math.max(begins[wait[0]], told(wait, begins, times));
            }
        }
        return begins;
    }

    private static int end(int[] begins, int[] times) {
        int end = 0;
        for (int k = 0; k < times.length; k++) {
            end = Math.max(end, begins[k] + times[k]);
        }
        return end;
    }

    private int[] latest(int[] times) {
        int end = end(earliest(times), times);
        int[] begins = new int[times.length];
        for (int k = 0; k < times.length; k++) {
            begins[k] = end - times[k];
        }
        while (!kept(begins, times)) {
            for (int[] wait : waits) {
                if (begins[wait[0]] < told(wait, begins, times)) {
                    begins[wait[1]]--;
                }
            }
        }
        return begins;
    }

    int early(int work) {
        exists(work, works);
        return earliest(times())[work];
    }

    int late(int work) {
        exists(work, works);
        return latest(times())[work];
    }

    int play(int work) {
        exists(work, works);
        return late(work) - early(work);
    }

    int length() {
        return end(earliest(times()), times());
    }

    long rows() {
        List<int[]> first = new ArrayList<>();
        return countRows(first);
    }

    int rowAt(int index) {
        List<int[]> first = new ArrayList<>();
        countRows(first);
        int[] row = first.isEmpty() ? new int[0] : first.get(0);
        if (index == -1) {
            return row.length;
        }
        if (!in(index, 0, row.length - 1)) {
            throw new IndexOutOfBoundsException();
        }
        return row[index];
    }

    /** Walks all rows; puts the first one by the order of the document into a list. */
    private long countRows(List<int[]> first) {
        int[] times = times();
        int[] begins = earliest(times);
        long count = 0;
        for (int work = 0; work < times.length; work++) {
            if (begins[work] == 0) {
                count += walk(new int[] {work}, begins, times, first);
            }
        }
        return count;
    }

    private long walk(int[] row, int[] begins, int[] times, List<int[]> first) {
        long count = 0;
        int last = row[row.length - 1];
        if (begins[last] + times[last] == end(begins, times)) {
            count++;
            if (first.isEmpty()) {
                first.add(row);
            } else if (isAhead(row, first.get(0))) {
                first.set(0, row);
            }
        }
        for (int[] wait : waits) {
            if (wait[1] == last && told(wait, begins, times) == begins[wait[0]]) {
                int[] longer = Arrays.copyOf(row, row.length + 1);
                longer[row.length] = wait[0];
                count += walk(longer, begins, times, first);
            }
        }
        return count;
    }

    private static boolean isAhead(int[] one, int[] two) {
        for (int k = 0; k < Math.min(one.length, two.length); k++) {
            if (one[k] != two[k]) {
                return one[k] < two[k];
            }
        }
        return one.length > two.length;
    }

    private boolean plain() {
        return waits.stream().allMatch(wait -> wait[2] == 0);
    }

    long cost(int length) {
        argument(in(length, 0, 2000));
        int[] least = leastTimes();
        int[] begins = earliest(least);
        if (!plain() || end(begins, least) > length) {
            return -1;
        }
        return simplex(length, least, begins);
    }

    /**
     * The most that can be saved by taking times longer than the least ones. Unknown are by how much each work
     * begins behind its earliest beginning by least times, and by how much it takes longer than the least time.
     */
    private long simplex(int length, int[] least, int[] begins) {
        int n = works.size();
        int rows = waits.size() + 2 * n;
        long[][] table = new long[rows + 1][2 * n + rows + 1];
        int right = 2 * n + rows;
        int row = 0;
        for (int[] wait : waits) {
            table[row][wait[1]] += 1;
            table[row][n + wait[1]] += 1;
            table[row][wait[0]] -= 1;
            table[row][right] = begins[wait[0]] - begins[wait[1]] - least[wait[1]] - wait[3];
            row++;
        }
        long all = 0;
        for (int k = 0; k < n; k++) {
            Work work = works.get(k);
            table[row][k] = 1;
            table[row][n + k] = 1;
            table[row++][right] = length - begins[k] - least[k];
            table[row][n + k] = 1;
            table[row++][right] = work.time - least[k];
            table[rows][n + k] = -work.price;
            all += (long) work.price * (work.time - least[k]);
        }
        int[] basis = new int[rows];
        for (int k = 0; k < rows; k++) {
            table[k][2 * n + k] = 1;
            basis[k] = 2 * n + k;
        }
        while (pivot(table, basis, rows, right)) {
            // goes on until nothing can be won
        }
        return all - table[rows][right];
    }

    /** One step of Bland's rule; the table stays whole, as such tables are of the numbers -1, 0 and 1. */
    private static boolean pivot(long[][] table, int[] basis, int rows, int right) {
        int column = 0;
        while (column < right && table[rows][column] >= 0) {
            column++;
        }
        if (column == right) {
            return false;
        }
        int row = -1;
        for (int k = 0; k < rows; k++) {
            if (Math.abs(table[k][column]) > 1) {
                throw new UnsupportedOperationException("the table is not as it should be");
            }
            if (table[k][column] > 0) {
                boolean isLess = row < 0 || table[k][right] < table[row][right]
                        || table[k][right] == table[row][right] && basis[k] < basis[row];
                row = isLess ? k : row;
            }
        }
        for (int k = 0; k <= rows; k++) {
            long times = table[k][column];
            if (k != row && times != 0) {
                for (int j = 0; j <= right; j++) {
                    table[k][j] -= times * table[row][j];
                }
            }
        }
        basis[row] = column;
        return true;
    }

    int shortest() {
        return plain() ? end(earliest(leastTimes()), leastTimes()) : -1;
    }

    private int peakOf(int[] begins) {
        int peak = 0;
        int end = end(begins, times());
        for (int day = 0; day < end; day++) {
            int sum = 0;
            for (int k = 0; k < begins.length; k++) {
                sum += begins[k] <= day && day < begins[k] + works.get(k).time ? works.get(k).means : 0;
            }
            peak = Math.max(peak, sum);
        }
        return peak;
    }

    int peak() {
        return peakOf(earliest(times()));
    }

    int leastPeak() {
        int[] times = times();
        int[] from = earliest(times);
        int[] upTo = latest(times);
        long product = 1;
        for (int k = 0; k < from.length; k++) {
            product = Math.min(1000000, product * (upTo[k] - from[k] + 1));
        }
        state(product <= 5000);
        int best = Integer.MAX_VALUE;
        for (int plan = 0; plan < product; plan++) {
            int[] begins = new int[from.length];
            int code = plan;
            for (int k = 0; k < from.length; k++) {
                begins[k] = from[k] + code % (upTo[k] - from[k] + 1);
                code /= upTo[k] - from[k] + 1;
            }
            if (kept(begins, times)) {
                best = Math.min(best, peakOf(begins));
            }
        }
        return best;
    }

    // work days

    boolean rest(int weekday) {
        argument(in(weekday, 0, 6));
        rest[weekday] = !rest[weekday];
        boolean isFine = false;
        for (boolean day : rest) {
            isFine |= !day;
        }
        if (!isFine) {
            rest[weekday] = false;
        }
        state(isFine);
        return rest[weekday];
    }

    boolean free(int day) {
        argument(in(day, 0, 400));
        if (!free.add(day)) {
            free.remove(day);
        }
        return free.contains(day);
    }

    int dayOf(int number) {
        argument(in(number, 0, 2000));
        int left = number;
        int day = 0;
        while (true) {
            if (!rest[day % 7] && !free.contains(day) && left-- == 0) {
                return day;
            }
            day++;
        }
    }

    // hulls and blocks

    int plate(long corners) {
        argument(corners > 0);
        String digits = String.valueOf(corners);
        digits = digits.length() % 2 == 1 ? "0" + digits : digits;
        int size = digits.length() / 2;
        argument(in(size, 3, 6));
        int[] ring = new int[size];
        for (int k = 0; k < size; k++) {
            ring[k] = Integer.parseInt(digits.substring(2 * k, 2 * k + 2));
            argument(ring[k] <= 30);
        }
        argument(Arrays.stream(ring).distinct().count() == size);
        state(plates.size() < 20);
        plates.add(ring);
        return plates.size() - 1;
    }

    private int platesWith(int from, int to) {
        int count = 0;
        for (int[] ring : plates) {
            for (int k = 0; k < ring.length; k++) {
                count += ring[k] == from && ring[(k + 1) % ring.length] == to ? 1 : 0;
            }
        }
        return count;
    }

    int openEdges() {
        int open = 0;
        for (int[] ring : plates) {
            for (int k = 0; k < ring.length; k++) {
                int from = ring[k];
                int to = ring[(k + 1) % ring.length];
                open += platesWith(to, from) != 1 || platesWith(from, to) >= 2 ? 1 : 0;
            }
        }
        return open;
    }

    boolean isClosed() {
        return !plates.isEmpty() && openEdges() == 0;
    }

    int block(int length, int width, int height, int weight) {
        argument(in(length, 1, 9) && in(width, 1, 9) && in(height, 1, 9) && in(weight, 1, 99));
        state(blocks.size() < 20);
        blocks.add(new int[] {length, width, height, weight});
        return blocks.size() - 1;
    }

    private static List<int[]> cells(int[] block) {
        List<int[]> cells = new ArrayList<>();
        for (int x = 0; block.length > 4 && x < block[0]; x++) {
            for (int y = 0; y < block[1]; y++) {
                for (int z = 0; z < block[2]; z++) {
                    cells.add(new int[] {block[4] + x, block[5] + y, block[6] + z, block[3]});
                }
            }
        }
        return cells;
    }

    private static boolean holdsCell(int[] block, int[] cell) {
        boolean isIn = block.length > 4;
        for (int k = 0; isIn && k < 3; k++) {
            isIn = in(cell[k], block[4 + k], block[4 + k] + block[k] - 1);
        }
        return isIn;
    }

    boolean put(int number, int x, int y, int z) {
        exists(number, blocks);
        argument(in(x, 0, 99) && in(y, 0, 99) && in(z, 0, 99));
        int[] block = Arrays.copyOf(blocks.get(number), 7);
        block[4] = x;
        block[5] = y;
        block[6] = z;
        for (int other = 0; other < blocks.size(); other++) {
            for (int[] cell : other == number ? new ArrayList<int[]>() : cells(block)) {
                if (holdsCell(blocks.get(other), cell)) {
                    return false;
                }
            }
        }
        blocks.set(number, block);
        return true;
    }

    boolean takeAway(int number) {
        exists(number, blocks);
        boolean was = blocks.get(number).length > 4;
        blocks.set(number, Arrays.copyOf(blocks.get(number), 4));
        return was;
    }

    long weight() {
        long sum = 0;
        for (int[] block : blocks) {
            for (int[] cell : cells(block)) {
                sum += cell[3];
            }
        }
        return sum;
    }

    private long twice(int direction) {
        long sum = 0;
        for (int[] block : blocks) {
            for (int[] cell : cells(block)) {
                sum += cell[3] * (2L * cell[direction] + 1);
            }
        }
        return sum;
    }

    private static long fraction(long above, long below, boolean isUnder) {
        long divisor = java.math.BigInteger.valueOf(above).gcd(java.math.BigInteger.valueOf(below)).longValue();
        return (isUnder ? below : above) / divisor;
    }

    long middle(int direction, boolean isUnder) {
        argument(in(direction, 0, 2));
        if (weight() == 0) {
            throw new NoSuchElementException();
        }
        return fraction(twice(direction), 2 * weight(), isUnder);
    }

    long trim(int place) {
        argument(in(place, 0, 99));
        return twice(0) - 2 * place * weight();
    }

    float putShare() {
        int put = 0;
        for (int[] block : blocks) {
            put += block.length > 4 ? 1 : 0;
        }
        return blocks.isEmpty() ? 0.0f : (float) put / (float) blocks.size();
    }

    // slips and cranes

    int slip(int length) {
        argument(in(length, 1, 100));
        state(slips.size() < 3);
        slips.add(length);
        return slips.size() - 1;
    }

    private boolean clear(int slip, int place, int length, int day, int days) {
        for (int[] stand : stands) {
            if (stand[0] == slip) {
                boolean isApart = place + length <= stand[1] || stand[1] + stand[2] <= place
                        || day + days <= stand[3] || stand[3] + stand[4] <= day;
                if (!isApart) {
                    return false;
                }
            }
        }
        return true;
    }

    boolean stand(int slip, int place, int length, int day, int days) {
        exists(slip, slips);
        argument(in(place, 0, slips.get(slip) - 1) && in(length, 1, slips.get(slip) - place));
        argument(in(day, 0, 400) && in(days, 1, 100));
        state(stands.stream().filter(stand -> stand[0] == slip).count() < 20);
        boolean isClear = clear(slip, place, length, day, days);
        if (isClear) {
            stands.add(new int[] {slip, place, length, day, days});
        }
        return isClear;
    }

    int firstStand(int slip, int length, int days, boolean isPlace) {
        exists(slip, slips);
        argument(in(length, 1, slips.get(slip)) && in(days, 1, 100));
        for (int day = 0; true; day++) {
            for (int place = 0; place + length <= slips.get(slip); place++) {
                if (clear(slip, place, length, day, days)) {
                    return isPlace ? place : day;
                }
            }
        }
    }

    int crane(int strength) {
        argument(in(strength, 1, 100000));
        state(cranes.size() < 4);
        cranes.add(strength);
        return cranes.size() - 1;
    }

    private boolean liftable(int crane, int day, int place, int weight) {
        boolean isFine = weight <= cranes.get(crane);
        for (int[] lift : lifts) {
            int way = Math.abs(lift[2] - place);
            int days = Math.abs(lift[1] - day);
            if (lift[0] == crane) {
                isFine &= days > 0 && (way + 4) / 5 <= days;
            } else if (days == 0) {
                isFine &= lift[0] < crane ? lift[2] < place : lift[2] > place;
            }
        }
        return isFine;
    }

    boolean lift(int crane, int day, int place, int weight) {
        exists(crane, cranes);
        argument(in(day, 0, 400) && in(place, 0, 99) && in(weight, 1, 100000));
        state(lifts.stream().filter(lift -> lift[0] == crane).count() < 30);
        boolean isFine = liftable(crane, day, place, weight);
        if (isFine) {
            lifts.add(new int[] {crane, day, place});
        }
        return isFine;
    }

    int nextLift(int crane, int from, int place, int weight) {
        exists(crane, cranes);
        argument(in(from, 0, 400) && in(place, 0, 99) && in(weight, 1, 100000));
        for (int day = from; day <= 500; day++) {
            if (liftable(crane, day, place, weight)) {
                return day;
            }
        }
        return -1;
    }

    // claims

    int delay(int work, int causer, int days) {
        exists(work, works);
        argument(in(causer, 0, 3) && in(days, 0, 60));
        int was = works.get(work).delay[causer];
        works.get(work).delay[causer] = days;
        return was;
    }

    int lateLength(int causers) {
        argument(in(causers, 0, 15));
        int[] times = times(causers);
        return end(earliest(times), times);
    }

    long claim(int causer, boolean isUnder) {
        argument(in(causer, 0, 3));
        long sum = 0;
        int orders = 0;
        for (int code = 0; code < 256; code++) {
            int[] order = {code & 3, code >> 2 & 3, code >> 4 & 3, code >> 6};
            if (Arrays.stream(order).distinct().count() == 4) {
                orders++;
                int ahead = 0;
                for (int k = 0; order[k] != causer; k++) {
                    ahead |= 1 << order[k];
                }
                sum += lateLength(ahead | 1 << causer) - lateLength(ahead);
            }
        }
        return fraction(sum, orders, isUnder);
    }

    int errors() {
        return 0;
    }

    double meanPlay() {
        long sum = 0;
        for (int k = 0; k < works.size(); k++) {
            sum += play(k);
        }
        return works.isEmpty() ? 0.0 : (double) sum / (double) works.size();
    }
}

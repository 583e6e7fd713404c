import java.math.BigInteger;
import java.util.ArrayDeque;
import java.util.ArrayList;
import java.util.Arrays;
import java.util.Deque;
import java.util.List;
import java.util.regex.Matcher;
import java.util.regex.Pattern;

/**
 * The document once more, as plainly as can be and by other ways than the
 * program: fractions, the formulas of the terms, a pattern for tokens.
 */
final class Model {
    private static final Pattern TOKEN = Pattern.compile("[a-z]+|[0-9]+|.", Pattern.DOTALL);

    private static final class Fault extends RuntimeException {
        private static final long serialVersionUID = 1;
        final int code;
        final int at;

        Fault(int code, int at) {
            this.code = code;
            this.at = at;
        }
    }

    private static final class State {
        int length;
        int most;
        List<int[]> supports = new ArrayList<>();
        List<Integer> hinges = new ArrayList<>();
        List<int[]> loads = new ArrayList<>();
        List<int[]> axles = new ArrayList<>();

        State copy() {
            State copy = new State();
            copy.length = length;
            copy.most = most;
            supports.forEach(pair -> copy.supports.add(pair.clone()));
            copy.hinges.addAll(hinges);
            loads.forEach(pair -> copy.loads.add(pair.clone()));
            axles.forEach(pair -> copy.axles.add(pair.clone()));
            return copy;
        }

        void sort() {
            supports.sort((one, other) -> one[0] - other[0]);
            hinges.sort(null);
        }

        boolean taken(int place) {
            return hinges.contains(place) || supports.stream().anyMatch(pair -> pair[0] == place);
        }

        int lastHead() {
            return axles.isEmpty() ? 0 : length + axles.stream().mapToInt(pair -> pair[1]).max().getAsInt();
        }
    }

    /** The influences on the reactions as fractions over one denominator. */
    private static final class Influences {
        long unit;
        long[][] reactions;

        static Influences of(State state) {
            int n = state.supports.size();
            BigInteger[][] over = new BigInteger[n][state.length + 1];
            BigInteger whole = determinant(equations(state, -1, 0));
            if (whole.signum() == 0) {
                return null;
            }
            BigInteger unit = BigInteger.ONE;
            for (int x = 0; x <= state.length; x++) {
                for (int i = 0; i < n; i++) {
                    over[i][x] = determinant(equations(state, i, x));
                    BigInteger under = whole.abs().divide(whole.gcd(over[i][x]));
                    unit = unit.multiply(under).divide(unit.gcd(under));
                }
            }
            Influences made = new Influences();
            made.unit = unit.longValueExact();
            made.reactions = new long[n][state.length + 1];
            for (int i = 0; i < n; i++) {
                for (int x = 0; x <= state.length; x++) {
                    BigInteger[] parts = over[i][x].multiply(unit).divideAndRemainder(whole);
                    if (parts[1].signum() != 0) {
                        throw new AssertionError();
                    }
                    made.reactions[i][x] = parts[0].longValueExact();
                }
            }
            return made;
        }

        /** By Cramer's rule: the column of one reaction is the load at x. */
        private static long[][] equations(State state, int column, int x) {
            int n = state.supports.size();
            long[][] rows = new long[n][n];
            for (int i = 0; i < n; i++) {
                int place = i == column ? x : state.supports.get(i)[0];
                rows[0][i] = 1;
                rows[1][i] = place;
                for (int j = 0; j < state.hinges.size(); j++) {
                    int hinge = state.hinges.get(j);
                    rows[2 + j][i] = place < hinge ? hinge - place : 0;
                }
            }
            return rows;
        }

        private static BigInteger determinant(long[][] rows) {
            int n = rows.length;
            if (n == 1) {
                return BigInteger.valueOf(rows[0][0]);
            }
            BigInteger sum = BigInteger.ZERO;
            for (int column = 0; column < n; column++) {
                if (rows[0][column] == 0) {
                    continue;
                }
                long[][] rest = new long[n - 1][n - 1];
                for (int i = 1; i < n; i++) {
                    for (int j = 0; j < n; j++) {
                        if (j != column) {
                            rest[i - 1][j < column ? j : j - 1] = rows[i][j];
                        }
                    }
                }
                BigInteger part = determinant(rest).multiply(BigInteger.valueOf(rows[0][column]));
                sum = column % 2 == 0 ? sum.add(part) : sum.subtract(part);
            }
            return sum;
        }
    }

    /** Weights at places, and what they do to a beam. */
    private static final class Loading {
        final State state;
        final Influences influences;
        final List<int[]> weights = new ArrayList<>();

        Loading(State state, Influences influences) {
            this.state = state;
            this.influences = influences;
        }

        Loading add(int weight, int place) {
            if (place >= 0 && place <= state.length) {
                weights.add(new int[] {weight, place});
            }
            return this;
        }

        static Loading at(State state, Influences influences, int head) {
            Loading loading = new Loading(state, influences);
            state.loads.forEach(pair -> loading.add(pair[0], pair[1]));
            if (head >= 0) {
                state.axles.forEach(pair -> loading.add(pair[0], head - pair[1]));
            }
            return loading;
        }

        long reaction(int support) {
            return weights.stream().mapToLong(pair -> pair[0] * influences.reactions[support][pair[1]]).sum();
        }

        long shear(int field) {
            long sum = 0;
            for (int i = 0; i < state.supports.size(); i++) {
                sum += state.supports.get(i)[0] <= field ? reaction(i) : 0;
            }
            for (int[] pair : weights) {
                sum -= pair[1] <= field ? pair[0] * influences.unit : 0;
            }
            return sum;
        }

        long moment(int section) {
            long sum = 0;
            for (int i = 0; i < state.supports.size(); i++) {
                int left = section - state.supports.get(i)[0];
                sum += left > 0 ? reaction(i) * left : 0;
            }
            for (int[] pair : weights) {
                int left = section - pair[1];
                sum -= left > 0 ? pair[0] * influences.unit * left : 0;
            }
            return sum;
        }

        int all() {
            return weights.stream().mapToInt(pair -> pair[0]).sum();
        }

        int reason() {
            for (int i = 0; i < state.supports.size(); i++) {
                if (reaction(i) < 0) {
                    return 1;
                }
            }
            for (int i = 0; i < state.supports.size(); i++) {
                int bearing = state.supports.get(i)[1];
                if (bearing != -1 && reaction(i) > bearing * influences.unit) {
                    return 2;
                }
            }
            for (int section = 0; section <= state.length; section++) {
                if (Math.abs(moment(section)) > state.most * influences.unit) {
                    return 3;
                }
            }
            return 0;
        }
    }

    private State now = new State();
    private Influences influences;
    private final Deque<State> past = new ArrayDeque<>();
    private final State[] saved = new State[2];
    private StringBuilder buffer = new StringBuilder();
    private int errorAt = -1;
    private String written = "";

    Model() {
        now.length = 10;
        now.most = 100;
        now.supports.add(new int[] {0, -1});
        now.supports.add(new int[] {10, -1});
        influences = Influences.of(now);
    }

    // ---- setup

    int append(int... fours) {
        StringBuilder more = new StringBuilder();
        for (int four : fours) {
            for (int one : new int[] {four >>> 24, four >>> 16 & 255, four >>> 8 & 255, four & 255}) {
                more.append(one == 0 ? "" : String.valueOf((char) one));
            }
        }
        if (buffer.length() + more.length() > 500) {
            throw new IllegalStateException();
        }
        return buffer.append(more).length();
    }

    int load() {
        String text = buffer.toString();
        buffer = new StringBuilder();
        try {
            State read = new Grammar(text).read();
            errorAt = -1;
            change(read);
            return read.supports.size();
        } catch (Fault fault) {
            errorAt = fault.at;
            return fault.code;
        }
    }

    private static final class Grammar {
        private final List<String> tokens = new ArrayList<>();
        private final List<Integer> places = new ArrayList<>();
        private final int end;
        private int next = 0;

        Grammar(String text) {
            Matcher matcher = TOKEN.matcher(text);
            while (matcher.find()) {
                if (!matcher.group().equals(" ")) {
                    tokens.add(matcher.group());
                    places.add(matcher.start());
                }
            }
            tokens.add("");
            places.add(text.length());
            end = text.length();
        }

        State read() {
            State state = new State();
            word("beam");
            state.length = number(2, 30);
            word("most");
            state.most = number(1, 999999);
            word(";");
            while (!tokens.get(next).isEmpty()) {
                statement(state);
            }
            if (state.supports.size() < 2 || state.hinges.size() != state.supports.size() - 2) {
                throw new Fault(-6, end);
            }
            state.sort();
            if (Influences.of(state) == null) {
                throw new Fault(-7, end);
            }
            return state;
        }

        private void statement(State state) {
            String name = tokens.get(next);
            List<?> row;
            int most;
            switch (name) {
                case "support" -> { row = state.supports; most = 5; }
                case "hinge" -> { row = state.hinges; most = 3; }
                case "load" -> { row = state.loads; most = 8; }
                case "axle" -> { row = state.axles; most = 6; }
                default -> throw new Fault(-2, places.get(next));
            }
            if (row.size() == most) {
                throw new Fault(-5, places.get(next));
            }
            next++;
            int at = places.get(next);
            switch (name) {
                case "support" -> {
                    int place = free(state, number(0, state.length), at);
                    int bearing = -1;
                    if (tokens.get(next).equals("bears")) {
                        next++;
                        bearing = number(1, 99999);
                    }
                    state.supports.add(new int[] {place, bearing});
                }
                case "hinge" -> state.hinges.add(free(state, number(1, state.length - 1), at));
                case "load" -> {
                    int weight = number(1, 999);
                    word("at");
                    state.loads.add(new int[] {weight, number(0, state.length)});
                }
                default -> {
                    int weight = number(1, 999);
                    word("behind");
                    state.axles.add(new int[] {weight, number(0, 30)});
                }
            }
            word(";");
        }

        private int free(State state, int place, int at) {
            if (state.taken(place)) {
                throw new Fault(-4, at);
            }
            return place;
        }

        private void word(String due) {
            if (!tokens.get(next).equals(due)) {
                throw new Fault(-2, places.get(next));
            }
            next++;
        }

        private int number(int least, int most) {
            String token = tokens.get(next);
            if (!token.matches("[0-9]+")) {
                throw new Fault(-2, places.get(next));
            }
            BigInteger value = new BigInteger(token);
            if (value.compareTo(BigInteger.valueOf(least)) < 0 || value.compareTo(BigInteger.valueOf(most)) > 0) {
                throw new Fault(-3, places.get(next));
            }
            next++;
            return value.intValueExact();
        }
    }

    int errorPosition() {
        return errorAt;
    }

    int count(int what) {
        argument(what >= 0 && what <= 8);
        return new int[] {now.length, now.supports.size(), now.hinges.size(), now.loads.size(), now.axles.size(), now.most,
            now.loads.stream().mapToInt(pair -> pair[0]).sum(), now.axles.stream().mapToInt(pair -> pair[0]).sum(),
            now.lastHead()}[what];
    }

    long unit() {
        return influences.unit;
    }

    int support(int support, int what) {
        return pair(now.supports, support, what);
    }

    int hinge(int hinge) {
        index(hinge, now.hinges.size());
        return now.hinges.get(hinge);
    }

    int weight(int load, int what) {
        return pair(now.loads, load, what);
    }

    int axle(int axle, int what) {
        return pair(now.axles, axle, what);
    }

    int part(int place) {
        index(place, now.length + 1);
        return (int) now.hinges.stream().filter(hinge -> hinge <= place).count();
    }

    // ---- influence lines

    long reactionLine(int support, int x) {
        index(support, now.supports.size());
        index(x, now.length + 1);
        return influences.reactions[support][x];
    }

    long shearLine(int field, int x) {
        index(field, now.length);
        index(x, now.length + 1);
        return one(x).shear(field);
    }

    long momentLine(int section, int x) {
        index(section, now.length + 1);
        index(x, now.length + 1);
        return one(x).moment(section);
    }

    long area(int section) {
        index(section, now.length + 1);
        long sum = 0;
        for (int x = 0; x <= now.length; x++) {
            sum += one(x).moment(section);
        }
        return sum;
    }

    int still(int section) {
        index(section, now.length + 1);
        int set = 0;
        for (int x = 0; x <= now.length; x++) {
            set += one(x).moment(section) == 0 ? 1 << x : 0;
        }
        return set;
    }

    long gap(int section, int x) {
        index(section, now.length + 1);
        index(x, now.length + 1);
        return 0;
    }

    // ---- with loads and the train

    long reaction(int support, int head) {
        index(support, now.supports.size());
        head(head);
        return at(head).reaction(support);
    }

    long shear(int field, int head) {
        index(field, now.length);
        head(head);
        return at(head).shear(field);
    }

    long moment(int section, int head) {
        index(section, now.length + 1);
        head(head);
        return at(head).moment(section);
    }

    int worstForReaction(int support, boolean greatest) {
        index(support, now.supports.size());
        return worst(greatest, head -> at(head).reaction(support));
    }

    int worstForShear(int field, boolean greatest) {
        index(field, now.length);
        return worst(greatest, head -> at(head).shear(field));
    }

    int worstForMoment(int section, boolean greatest) {
        index(section, now.length + 1);
        return worst(greatest, head -> at(head).moment(section));
    }

    private interface Force {
        long of(int head);
    }

    private int worst(boolean greatest, Force force) {
        int worst = 0;
        for (int head = 1; head <= now.lastHead(); head++) {
            long more = force.of(head) - force.of(worst);
            worst = greatest && more > 0 || !greatest && more < 0 ? head : worst;
        }
        return worst;
    }

    int worstSection() {
        long[] peaks = peaks(now, influences);
        int worst = 0;
        for (int section = 0; section <= now.length; section++) {
            worst = peaks[section] > peaks[worst] ? section : worst;
        }
        return worst;
    }

    int danger(int head) {
        head(head);
        return at(head).reason();
    }

    int firstDanger() {
        for (int head = 0; head <= now.lastHead(); head++) {
            if (at(head).reason() != 0) {
                return head;
            }
        }
        return -1;
    }

    int lifting() {
        int set = 0;
        for (int head = 0; head <= now.lastHead(); head++) {
            for (int i = 0; i < now.supports.size(); i++) {
                set |= at(head).reaction(i) < 0 ? 1 << i : 0;
            }
        }
        return set;
    }

    double share(int support, int head) {
        index(support, now.supports.size());
        head(head);
        Loading loading = at(head);
        return loading.all() == 0 ? 0 : (double) loading.reaction(support) / (double) (influences.unit * loading.all());
    }

    float used() {
        long peak = Arrays.stream(peaks(now, influences)).max().getAsLong();
        return (float) peak / (float) (now.most * influences.unit);
    }

    // ---- what would be

    int tryHinge(int hinge, int place) {
        index(hinge, now.hinges.size());
        argument(place >= 1 && place < now.length);
        State other = now.copy();
        other.hinges.remove(hinge);
        if (other.taken(place)) {
            return -11;
        }
        other.hinges.add(place);
        other.sort();
        return Influences.of(other) == null ? -12 : 0;
    }

    int bestHinge(int hinge) {
        index(hinge, now.hinges.size());
        int best = -1;
        BigInteger bestPeak = null;
        BigInteger bestUnit = null;
        for (int place = 1; place < now.length; place++) {
            if (tryHinge(hinge, place) != 0) {
                continue;
            }
            State other = now.copy();
            other.hinges.set(hinge, place);
            other.sort();
            Influences others = Influences.of(other);
            BigInteger peak = BigInteger.valueOf(Arrays.stream(peaks(other, others)).max().getAsLong());
            BigInteger unit = BigInteger.valueOf(others.unit);
            if (best == -1 || peak.multiply(bestUnit).compareTo(bestPeak.multiply(unit)) < 0) {
                best = place;
                bestPeak = peak;
                bestUnit = unit;
            }
        }
        return best;
    }

    /** Safe weights lie together, from the lightest one on. */
    int strongest() {
        if (at(-1).reason() != 0) {
            return 0;
        }
        int low = 0;
        int high = 999;
        while (low < high) {
            int middle = (low + high + 1) / 2;
            if (isSafeWithOneAxle(middle)) {
                low = middle;
            } else {
                high = middle - 1;
            }
        }
        return low;
    }

    private boolean isSafeWithOneAxle(int weight) {
        for (int head = 0; head <= now.length; head++) {
            if (at(-1).add(weight, head).reason() != 0) {
                return false;
            }
        }
        return true;
    }

    // ---- changes

    int moveSupport(int support, int place) {
        index(support, now.supports.size());
        index(place, now.length + 1);
        State other = now.copy();
        int[] moved = other.supports.remove(support);
        if (other.taken(place)) {
            return -11;
        }
        moved[0] = place;
        other.supports.add(moved);
        other.sort();
        if (Influences.of(other) == null) {
            return -12;
        }
        change(other);
        return other.supports.indexOf(moved);
    }

    int moveHinge(int hinge, int place) {
        int answer = tryHinge(hinge, place);
        if (answer < 0) {
            return answer;
        }
        State other = now.copy();
        other.hinges.set(hinge, place);
        other.sort();
        change(other);
        return other.hinges.indexOf(place);
    }

    int addLoad(int weight, int place) {
        index(place, now.length + 1);
        argument(weight >= 1 && weight <= 999);
        if (now.loads.size() == 8) {
            return -13;
        }
        State other = now.copy();
        other.loads.add(new int[] {weight, place});
        change(other);
        return other.loads.size() - 1;
    }

    int dropLoad(int load) {
        index(load, now.loads.size());
        State other = now.copy();
        int[] dropped = other.loads.remove(load);
        change(other);
        return dropped[0];
    }

    int addAxle(int weight, int behind) {
        argument(weight >= 1 && weight <= 999 && behind >= 0 && behind <= 30);
        if (now.axles.size() == 6) {
            return -14;
        }
        State other = now.copy();
        other.axles.add(new int[] {weight, behind});
        change(other);
        return other.axles.size() - 1;
    }

    int dropAxle(int axle) {
        index(axle, now.axles.size());
        State other = now.copy();
        int[] dropped = other.axles.remove(axle);
        change(other);
        return dropped[0];
    }

    int setBearing(int support, int bearing) {
        index(support, now.supports.size());
        argument(bearing == -1 || bearing >= 1 && bearing <= 99999);
        State other = now.copy();
        int before = other.supports.get(support)[1];
        other.supports.get(support)[1] = bearing;
        change(other);
        return before;
    }

    int setMost(int most) {
        argument(most >= 1 && most <= 999999);
        State other = now.copy();
        int before = other.most;
        other.most = most;
        change(other);
        return before;
    }

    int undo() {
        if (past.isEmpty()) {
            throw new IllegalStateException();
        }
        now = past.removeLast();
        influences = Influences.of(now);
        return past.size();
    }

    void save(int slot) {
        index(slot, 2);
        saved[slot] = now.copy();
    }

    int restore(int slot) {
        index(slot, 2);
        if (saved[slot] == null) {
            throw new IllegalStateException();
        }
        change(saved[slot].copy());
        return now.supports.size();
    }

    int writeBeam() {
        StringBuilder text = new StringBuilder();
        for (int place = 0; place <= now.length; place++) {
            int here = place;
            boolean isHinge = now.hinges.contains(place);
            boolean lies = now.loads.stream().anyMatch(pair -> pair[1] == here);
            text.append(isHinge ? 'o' : now.taken(place) ? '^' : lies ? 'v' : '-');
        }
        written = text.toString();
        return written.length();
    }

    int writtenByte(int index) {
        index(index, written.length());
        return written.charAt(index);
    }

    // ---- helpers

    private void change(State other) {
        past.addLast(now);
        if (past.size() > 8) {
            past.removeFirst();
        }
        now = other;
        influences = Influences.of(now);
    }

    private static int pair(List<int[]> row, int number, int what) {
        index(number, row.size());
        argument(what == 0 || what == 1);
        return row.get(number)[what];
    }

    private Loading one(int x) {
        return new Loading(now, influences).add(1, x);
    }

    private Loading at(int head) {
        return Loading.at(now, influences, head);
    }

    private static long[] peaks(State state, Influences influences) {
        long[] peaks = new long[state.length + 1];
        for (int head = 0; head <= state.lastHead(); head++) {
            Loading loading = Loading.at(state, influences, head);
            for (int section = 0; section <= state.length; section++) {
                peaks[section] = Math.max(peaks[section], Math.abs(loading.moment(section)));
            }
        }
        return peaks;
    }

    private void head(int head) {
        argument(head >= -1 && head <= now.lastHead());
    }

    private static void index(int index, int size) {
        if (index < 0 || index >= size) {
            throw new IndexOutOfBoundsException();
        }
    }

    private static void argument(boolean isRight) {
        if (!isRight) {
            throw new IllegalArgumentException();
        }
    }
}

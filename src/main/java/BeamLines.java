/**
 * A beam on supports, with hinges, of which every reaction is known by balance
 * alone. What each call promises stands in the document (../shared/DOC.md).
 */
public final class BeamLines {
    public static final int NONE = -1;
    public static final int SYNTAX_ERROR = -2;
    public static final int VALUE_ERROR = -3;
    public static final int TWICE = -4;
    public static final int TOO_MANY = -5;
    public static final int WRONG_HINGES = -6;
    public static final int FALLS = -7;

    private static final int LEAST_LENGTH = 2;
    private static final int GREATEST_LENGTH = 30;
    private static final int PLACES = GREATEST_LENGTH + 1;
    private static final int FEWEST_SUPPORTS = 2;
    private static final int MOST_SUPPORTS = 5;
    private static final int MOST_HINGES = 3;
    private static final int MOST_LOADS = 8;
    private static final int MOST_AXLES = 6;
    private static final int GREATEST_WEIGHT = 999;
    private static final int GREATEST_BEHIND = 30;
    private static final int GREATEST_BEARING = 99999;
    private static final int GREATEST_MOST = 999999;
    private static final int TEXT_ROOM = 500;
    private static final int CHANGES_KEPT = 8;
    private static final int SLOTS = 2;

    private static final int REFUSED_TAKEN = -11;
    private static final int REFUSED_FALLS = -12;
    private static final int REFUSED_LOADS = -13;
    private static final int REFUSED_AXLES = -14;

    private static final int SAFE = 0;
    private static final int LIFTS = 1;
    private static final int BEARS_TOO_MUCH = 2;
    private static final int BENDS_TOO_MUCH = 3;

    // All rows are made here and used again: a run of calls has one small room for all its objects.
    private final Reader reader = new Reader();
    private int errorAt = NONE;
    private final Beam present = new Beam();
    private final Lines lines = new Lines();
    private final Beam trial = new Beam();
    private final Lines trialLines = new Lines();
    private final Forces forces = new Forces();
    private final Forces withoutTrain = new Forces();
    private final Peak peak = new Peak();
    private final History history = new History();
    private final Beam[] saved = new Beam[SLOTS];
    private final boolean[] isSaved = new boolean[SLOTS];
    private final char[] written = new char[PLACES];
    private int writtenLength = 0;

    public BeamLines() {
        for (int slot = 0; slot < SLOTS; slot++) {
            saved[slot] = new Beam();
        }
        present.length = 10;
        present.most = 100;
        present.supports.putInOrder(0, NONE);
        present.supports.putInOrder(10, NONE);
        lines.reckon(present);
    }

    // ---- setup

    public int append(int a, int b, int c, int d, int e) throws IllegalStateException {
        int more = bytesIn(a) + bytesIn(b) + bytesIn(c) + bytesIn(d) + bytesIn(e);
        if (reader.text.length + more > TEXT_ROOM) {
            throw new IllegalStateException();
        }
        putBytes(a);
        putBytes(b);
        putBytes(c);
        putBytes(d);
        putBytes(e);
        return reader.text.length;
    }

    public int load() {
        int length = reader.text.length;
        boolean isRead = reader.readText();
        reader.text.length = 0;
        if (!isRead) {
            errorAt = reader.errorAt;
            return reader.code;
        }
        trial.copyFrom(reader.beam);
        if (!trialLines.reckon(trial)) {
            errorAt = length;
            return FALLS;
        }
        errorAt = NONE;
        takeTrial();
        return present.supports.size;
    }

    public int errorPosition() {
        return errorAt;
    }

    public int count(int what) throws IllegalArgumentException {
        switch (what) {
            case 0:
                return present.length;
            case 1:
                return present.supports.size;
            case 2:
                return present.hinges.size;
            case 3:
                return present.loads.size;
            case 4:
                return present.axles.size;
            case 5:
                return present.most;
            case 6:
                return present.loads.sumOfFirsts();
            case 7:
                return present.axles.sumOfFirsts();
            case 8:
                return present.lastHead();
            default:
                throw new IllegalArgumentException();
        }
    }

    public long unit() {
        return lines.common;
    }

    public int support(int support, int what) throws IndexOutOfBoundsException, IllegalArgumentException {
        return pairNumber(present.supports, support, what);
    }

    public int hinge(int hinge) throws IndexOutOfBoundsException {
        return pairNumber(present.hinges, hinge, 0);
    }

    public int weight(int load, int what) throws IndexOutOfBoundsException, IllegalArgumentException {
        return pairNumber(present.loads, load, what);
    }

    public int axle(int axle, int what) throws IndexOutOfBoundsException, IllegalArgumentException {
        return pairNumber(present.axles, axle, what);
    }

    public int part(int place) throws IndexOutOfBoundsException {
        needPlace(place);
        return present.hinges.countUpTo(place);
    }

    // ---- influence lines

    public long reactionLine(int support, int x) throws IndexOutOfBoundsException {
        needNumber(present.supports, support);
        needPlace(x);
        return lines.at(support, x);
    }

    public long shearLine(int field, int x) throws IndexOutOfBoundsException {
        needField(field);
        needPlace(x);
        forces.underOne(present, lines, x);
        return forces.shearIn(field);
    }

    public long momentLine(int section, int x) throws IndexOutOfBoundsException {
        needPlace(section);
        needPlace(x);
        return influenceOnMoment(section, x);
    }

    public long area(int section) throws IndexOutOfBoundsException {
        needPlace(section);
        long sum = 0;
        for (int x = 0; x <= present.length; x++) {
            sum += influenceOnMoment(section, x);
        }
        return sum;
    }

    public int still(int section) throws IndexOutOfBoundsException {
        needPlace(section);
        int set = 0;
        for (int x = 0; x <= present.length; x++) {
            if (influenceOnMoment(section, x) == 0) {
                set |= 1 << x;
            }
        }
        return set;
    }

    public long gap(int section, int x) throws IndexOutOfBoundsException {
        needPlace(section);
        needPlace(x);
        return influenceOnMoment(section, x) - influenceFromRight(section, x);
    }

    // ---- with loads and the train

    public long reaction(int support, int head) throws IndexOutOfBoundsException, IllegalArgumentException {
        needNumber(present.supports, support);
        needHead(head);
        forces.underAll(present, lines, head);
        return forces.reactionOf(support);
    }

    public long shear(int field, int head) throws IndexOutOfBoundsException, IllegalArgumentException {
        needField(field);
        needHead(head);
        forces.underAll(present, lines, head);
        return forces.shearIn(field);
    }

    public long moment(int section, int head) throws IndexOutOfBoundsException, IllegalArgumentException {
        needPlace(section);
        needHead(head);
        forces.underAll(present, lines, head);
        return forces.momentAt(section);
    }

    public int worstForReaction(int support, boolean greatest) throws IndexOutOfBoundsException {
        needNumber(present.supports, support);
        return worstHead(Forces.REACTION, support, greatest);
    }

    public int worstForShear(int field, boolean greatest) throws IndexOutOfBoundsException {
        needField(field);
        return worstHead(Forces.SHEAR, field, greatest);
    }

    public int worstForMoment(int section, boolean greatest) throws IndexOutOfBoundsException {
        needPlace(section);
        return worstHead(Forces.MOMENT, section, greatest);
    }

    public int worstSection() {
        peak.find(present, lines, forces);
        return peak.place;
    }

    public int danger(int head) throws IllegalArgumentException {
        needHead(head);
        return reasonWithHead(head);
    }

    public int firstDanger() {
        int last = present.lastHead();
        for (int head = 0; head <= last; head++) {
            if (reasonWithHead(head) != SAFE) {
                return head;
            }
        }
        return NONE;
    }

    public int lifting() {
        int set = 0;
        int last = present.lastHead();
        for (int head = 0; head <= last; head++) {
            forces.underAll(present, lines, head);
            set |= forces.liftedSet();
        }
        return set;
    }

    public double share(int support, int head) throws IndexOutOfBoundsException, IllegalArgumentException {
        needNumber(present.supports, support);
        needHead(head);
        forces.underAll(present, lines, head);
        double whole = (double) (lines.common * forces.total);
        if (whole == 0) {
            return 0;
        }
        return (double) forces.reactionOf(support) / whole;
    }

    public float used() {
        peak.find(present, lines, forces);
        float allowed = (float) (lines.common * present.most);
        if (allowed == 0) {
            return 0;
        }
        return (float) peak.size / allowed;
    }

    // ---- what would be

    public int tryHinge(int hinge, int place) throws IndexOutOfBoundsException, IllegalArgumentException {
        needNumber(present.hinges, hinge);
        needHingePlace(place);
        int answer = tryHingeAt(hinge, place);
        return answer < 0 ? answer : 0;
    }

    public int bestHinge(int hinge) throws IndexOutOfBoundsException {
        needNumber(present.hinges, hinge);
        int best = NONE;
        long bestSize = 0;
        long bestUnit = 1;
        for (int place = 1; place < present.length; place++) {
            if (tryHingeAt(hinge, place) < 0) {
                continue;
            }
            peak.find(trial, trialLines, forces);
            if (best == NONE || isLess(peak.size, trialLines.common, bestSize, bestUnit)) {
                best = place;
                bestSize = peak.size;
                bestUnit = trialLines.common;
            }
        }
        return best;
    }

    public int strongest() {
        withoutTrain.underAll(present, lines, NONE);
        if (withoutTrain.firstReason(present, lines) != SAFE) {
            return 0;
        }
        long weight = GREATEST_WEIGHT;
        for (int x = 0; x <= present.length; x++) {
            forces.underOne(present, lines, x);
            weight = Math.min(weight, weightThatSupportsBear());
            weight = Math.min(weight, weightThatMomentsAllow());
        }
        return (int) weight;
    }

    // ---- changes

    public int moveSupport(int support, int place) throws IndexOutOfBoundsException {
        needNumber(present.supports, support);
        needPlace(place);
        trial.copyFrom(present);
        int bearing = trial.supports.second(support);
        trial.supports.remove(support);
        if (trial.isTaken(place)) {
            return REFUSED_TAKEN;
        }
        int number = trial.supports.putInOrder(place, bearing);
        if (!trialLines.reckon(trial)) {
            return REFUSED_FALLS;
        }
        takeTrial();
        return number;
    }

    public int moveHinge(int hinge, int place) throws IndexOutOfBoundsException, IllegalArgumentException {
        needNumber(present.hinges, hinge);
        needHingePlace(place);
        int answer = tryHingeAt(hinge, place);
        if (answer >= 0) {
            takeTrial();
        }
        return answer;
    }

    public int addLoad(int weight, int place) throws IndexOutOfBoundsException, IllegalArgumentException {
        needPlace(place);
        needRange(weight, 1, GREATEST_WEIGHT);
        return addPair(present.loads, weight, place, REFUSED_LOADS);
    }

    public int dropLoad(int load) throws IndexOutOfBoundsException {
        return dropPair(present.loads, load);
    }

    public int addAxle(int weight, int behind) throws IllegalArgumentException {
        needRange(weight, 1, GREATEST_WEIGHT);
        needRange(behind, 0, GREATEST_BEHIND);
        return addPair(present.axles, weight, behind, REFUSED_AXLES);
    }

    public int dropAxle(int axle) throws IndexOutOfBoundsException {
        return dropPair(present.axles, axle);
    }

    public int setBearing(int support, int bearing) throws IndexOutOfBoundsException, IllegalArgumentException {
        needNumber(present.supports, support);
        if (bearing != NONE) {
            needRange(bearing, 1, GREATEST_BEARING);
        }
        history.remember(present);
        int before = present.supports.second(support);
        present.supports.setSecond(support, bearing);
        return before;
    }

    public int setMost(int most) throws IllegalArgumentException {
        needRange(most, 1, GREATEST_MOST);
        history.remember(present);
        int before = present.most;
        present.most = most;
        return before;
    }

    public int undo() throws IllegalStateException {
        if (!history.takeBack(present)) {
            throw new IllegalStateException();
        }
        lines.reckon(present);
        return history.size;
    }

    public void save(int slot) throws IndexOutOfBoundsException {
        needSlot(slot);
        saved[slot].copyFrom(present);
        isSaved[slot] = true;
    }

    public int restore(int slot) throws IndexOutOfBoundsException, IllegalStateException {
        needSlot(slot);
        if (!isSaved[slot]) {
            throw new IllegalStateException();
        }
        history.remember(present);
        present.copyFrom(saved[slot]);
        lines.reckon(present);
        return present.supports.size;
    }

    // ---- texts

    public int writeBeam() {
        writtenLength = present.length + 1;
        for (int place = 0; place < writtenLength && place < PLACES; place++) {
            written[place] = present.signAt(place);
        }
        return writtenLength;
    }

    public int writtenByte(int index) throws IndexOutOfBoundsException {
        if (index < 0 || index >= writtenLength || index >= PLACES) {
            throw new IndexOutOfBoundsException();
        }
        return written[index];
    }

    // ---- what arguments must be

    private void needNumber(Row row, int number) {
        if (!row.has(number)) {
            throw new IndexOutOfBoundsException();
        }
    }

    private void needPlace(int place) {
        if (!present.hasPlace(place)) {
            throw new IndexOutOfBoundsException();
        }
    }

    private void needField(int field) {
        if (field < 0 || field >= present.length) {
            throw new IndexOutOfBoundsException();
        }
    }

    private void needSlot(int slot) {
        if (slot < 0 || slot >= SLOTS) {
            throw new IndexOutOfBoundsException();
        }
    }

    private void needHead(int head) {
        needRange(head, NONE, present.lastHead());
    }

    private void needHingePlace(int place) {
        needRange(place, 1, present.length - 1);
    }

    private void needRange(int number, int least, int greatest) {
        if (number < least || number > greatest) {
            throw new IllegalArgumentException();
        }
    }

    // ---- the text buffer

    private static int bytesIn(int four) {
        int bytes = 0;
        for (int shift = 24; shift >= 0; shift -= 8) {
            if ((four >>> shift & 255) != 0) {
                bytes++;
            }
        }
        return bytes;
    }

    private void putBytes(int four) {
        for (int shift = 24; shift >= 0; shift -= 8) {
            int one = four >>> shift & 255;
            if (one != 0) {
                reader.text.put(one);
            }
        }
    }

    // ---- rows of pairs

    private int pairNumber(Row row, int number, int what) {
        needNumber(row, number);
        needRange(what, 0, 1);
        return what == 0 ? row.first(number) : row.second(number);
    }

    private int addPair(Row row, int first, int second, int refusal) {
        if (row.isFull()) {
            return refusal;
        }
        history.remember(present);
        return row.putLast(first, second);
    }

    private int dropPair(Row row, int number) {
        needNumber(row, number);
        history.remember(present);
        int first = row.first(number);
        row.remove(number);
        return first;
    }

    // ---- forces

    private long influenceOnMoment(int section, int x) {
        forces.underOne(present, lines, x);
        return forces.momentAt(section);
    }

    private long influenceFromRight(int section, int x) {
        long sum = 0;
        for (int number = 0; number < present.supports.size; number++) {
            int right = present.supports.first(number) - section;
            if (right > 0) {
                sum += lines.at(number, x) * right;
            }
        }
        if (x > section) {
            sum -= lines.common * (x - section);
        }
        return sum;
    }

    private int worstHead(int kind, int number, boolean greatest) {
        int worst = 0;
        long most = 0;
        int last = present.lastHead();
        for (int head = 0; head <= last; head++) {
            forces.underAll(present, lines, head);
            long force = forces.ofKind(kind, number);
            boolean isWorse = greatest ? force > most : force < most;
            if (head == 0 || isWorse) {
                worst = head;
                most = force;
            }
        }
        return worst;
    }

    private int reasonWithHead(int head) {
        forces.underAll(present, lines, head);
        return forces.firstReason(present, lines);
    }

    private long weightThatSupportsBear() {
        long weight = GREATEST_WEIGHT;
        for (int number = 0; number < present.supports.size; number++) {
            long now = withoutTrain.reactionOf(number);
            long more = forces.reactionOf(number);
            weight = Math.min(weight, timesThatFit(now, -more));
            int bearing = present.supports.second(number);
            if (bearing != NONE) {
                weight = Math.min(weight, timesThatFit(lines.common * bearing - now, more));
            }
        }
        return weight;
    }

    private long weightThatMomentsAllow() {
        long weight = GREATEST_WEIGHT;
        long allowed = lines.common * present.most;
        for (int section = 0; section <= present.length; section++) {
            long now = withoutTrain.momentAt(section);
            long more = forces.momentAt(section);
            weight = Math.min(weight, timesThatFit(allowed - now, more));
            weight = Math.min(weight, timesThatFit(allowed + now, -more));
        }
        return weight;
    }

    private static long timesThatFit(long room, long more) {
        return more <= 0 ? GREATEST_WEIGHT : room / more;
    }

    // ---- trials

    /** Leaves the beam with the hinge there in the trial; answers as moveHinge does. */
    private int tryHingeAt(int hinge, int place) {
        trial.copyFrom(present);
        trial.hinges.remove(hinge);
        if (trial.isTaken(place)) {
            return REFUSED_TAKEN;
        }
        int number = trial.hinges.putInOrder(place, 0);
        return trialLines.reckon(trial) ? number : REFUSED_FALLS;
    }

    private void takeTrial() {
        history.remember(present);
        present.copyFrom(trial);
        lines.reckon(present);
    }

    /** Units stay below 2^26 (Hadamard's bound), so the products of rests can't overflow; those of whole sizes might. */
    private static boolean isLess(long size, long unit, long otherSize, long otherUnit) {
        if (unit <= 0 || otherUnit <= 0) {
            return false;
        }
        long whole = size / unit;
        long otherWhole = otherSize / otherUnit;
        if (whole != otherWhole) {
            return whole < otherWhole;
        }
        return size % unit * otherUnit < otherSize % otherUnit * unit;
    }

    /** A numbered row of pairs of numbers, with room for a fixed number of them. */
    private static final class Row {
        private final int[] firsts;
        private final int[] seconds;
        int size = 0;

        Row(int room) {
            firsts = new int[Math.max(room, 0)];
            seconds = new int[Math.max(room, 0)];
        }

        boolean has(int number) {
            return number >= 0 && number < size && number < firsts.length && number < seconds.length;
        }

        boolean isFull() {
            return size >= firsts.length || size >= seconds.length;
        }

        int first(int number) {
            return has(number) ? firsts[number] : 0;
        }

        int second(int number) {
            return has(number) ? seconds[number] : 0;
        }

        void setSecond(int number, int second) {
            if (has(number)) {
                seconds[number] = second;
            }
        }

        boolean holdsFirst(int first) {
            for (int number = 0; number < size && number < firsts.length; number++) {
                if (firsts[number] == first) {
                    return true;
                }
            }
            return false;
        }

        boolean holdsSecond(int second) {
            for (int number = 0; number < size && number < seconds.length; number++) {
                if (seconds[number] == second) {
                    return true;
                }
            }
            return false;
        }

        int countUpTo(int first) {
            int below = 0;
            for (int number = 0; number < size && number < firsts.length; number++) {
                if (firsts[number] <= first) {
                    below++;
                }
            }
            return below;
        }

        int sumOfFirsts() {
            int sum = 0;
            for (int number = 0; number < size; number++) {
                sum += first(number);
            }
            return sum;
        }

        int greatestSecond() {
            int greatest = 0;
            for (int number = 0; number < size; number++) {
                greatest = Math.max(greatest, second(number));
            }
            return greatest;
        }

        int putLast(int first, int second) {
            return putAt(size, first, second);
        }

        /** Keeps a row that is in the order of its first numbers in that order. */
        int putInOrder(int first, int second) {
            return putAt(countUpTo(first), first, second);
        }

        private int putAt(int number, int first, int second) {
            if (isFull() || number < 0 || number > size) {
                return NONE;
            }
            for (int later = size; later > number; later--) {
                firsts[later] = firsts[later - 1];
                seconds[later] = seconds[later - 1];
            }
            firsts[number] = first;
            seconds[number] = second;
            size++;
            return number;
        }

        void remove(int number) {
            if (!has(number)) {
                return;
            }
            size--;
            for (int later = number; later < size; later++) {
                firsts[later] = firsts[later + 1];
                seconds[later] = seconds[later + 1];
            }
        }

        void copyFrom(Row other) {
            size = Math.min(other.size, Math.min(firsts.length, seconds.length));
            for (int number = 0; number < size; number++) {
                firsts[number] = other.first(number);
                seconds[number] = other.second(number);
            }
        }
    }

    /** All that undo brings back. */
    private static final class Beam {
        int length = LEAST_LENGTH;
        int most = 1;
        /** Pairs of place and bearing, in the order of the places. */
        final Row supports = new Row(MOST_SUPPORTS);
        /** Pairs of place and 0, in the order of the places. */
        final Row hinges = new Row(MOST_HINGES);
        /** Pairs of weight and place. */
        final Row loads = new Row(MOST_LOADS);
        /** Pairs of weight and how far behind. */
        final Row axles = new Row(MOST_AXLES);

        void makeBare() {
            supports.size = 0;
            hinges.size = 0;
            loads.size = 0;
            axles.size = 0;
        }

        void copyFrom(Beam other) {
            length = other.length;
            most = other.most;
            supports.copyFrom(other.supports);
            hinges.copyFrom(other.hinges);
            loads.copyFrom(other.loads);
            axles.copyFrom(other.axles);
        }

        boolean hasPlace(int place) {
            return place >= 0 && place <= length && place < PLACES;
        }

        boolean isTaken(int place) {
            return supports.holdsFirst(place) || hinges.holdsFirst(place);
        }

        int lastHead() {
            return axles.size == 0 ? 0 : length + axles.greatestSecond();
        }

        char signAt(int place) {
            if (supports.holdsFirst(place)) {
                return '^';
            }
            if (hinges.holdsFirst(place)) {
                return 'o';
            }
            return loads.holdsSecond(place) ? 'v' : '-';
        }
    }

    /** The influence lines of the reactions of a beam, times its unit. */
    private static final class Lines {
        // Above the 92 steps that Euclid's way takes at most with two longs.
        private static final int EUCLID_STEPS = 100;

        /** At first the balance of the reactions with a 1 for each equation behind it, then its inverse. */
        private final long[][] matrix = new long[MOST_SUPPORTS][2 * MOST_SUPPORTS];
        private final long[][] line = new long[MOST_SUPPORTS][PLACES];
        private int size = 0;
        private int places = 0;
        long common = 1;

        /** Answers whether the beam stands; if it does not, the lines mean nothing. */
        boolean reckon(Beam beam) {
            size = Math.min(beam.supports.size, MOST_SUPPORTS);
            places = Math.min(beam.length + 1, PLACES);
            setEquations(beam);
            long scale = invert();
            if (scale == 0) {
                return false;
            }
            setLines(beam);
            shorten(scale);
            return true;
        }

        long at(int support, int x) {
            boolean exists = support >= 0 && support < size && x >= 0 && x < places;
            return exists ? line[support][x] : 0;
        }

        /** How a load of 1 at a place counts in an equation of balance; a reaction counts the same, from below. */
        private static int weighing(Beam beam, int equation, int place) {
            if (equation == 0) {
                return 1;
            }
            if (equation == 1) {
                return place;
            }
            return Math.max(0, beam.hinges.first(equation - 2) - place);
        }

        private void setEquations(Beam beam) {
            for (int equation = 0; equation < size; equation++) {
                for (int number = 0; number < size; number++) {
                    matrix[equation][number] = weighing(beam, equation, beam.supports.first(number));
                    matrix[equation][size + number] = equation == number ? 1 : 0;
                }
            }
        }

        /**
         * Gauss and Jordan's way without fractions: each division is exact.
         * Answers the scale of the inverse, 0 if there is none.
         */
        private long invert() {
            long before = 1;
            for (int column = 0; column < size; column++) {
                int pivot = pivotRow(column);
                if (pivot == NONE) {
                    return 0;
                }
                swapRows(column, pivot);
                clearColumn(column, before);
                before = matrix[column][column];
            }
            return before;
        }

        private int pivotRow(int column) {
            for (int row = column; row < size; row++) {
                if (matrix[row][column] != 0) {
                    return row;
                }
            }
            return NONE;
        }

        private void swapRows(int one, int other) {
            for (int column = 0; column < 2 * size; column++) {
                long kept = matrix[one][column];
                matrix[one][column] = matrix[other][column];
                matrix[other][column] = kept;
            }
        }

        private void clearColumn(int pivot, long before) {
            if (before == 0) {
                return;
            }
            long head = matrix[pivot][pivot];
            for (int row = 0; row < size; row++) {
                if (row == pivot) {
                    continue;
                }
                long factor = matrix[row][pivot];
                for (int column = 0; column < 2 * size; column++) {
                    matrix[row][column] = (head * matrix[row][column] - factor * matrix[pivot][column]) / before;
                }
            }
        }

        private void setLines(Beam beam) {
            for (int x = 0; x < places; x++) {
                for (int number = 0; number < size; number++) {
                    long sum = 0;
                    for (int equation = 0; equation < size; equation++) {
                        sum += matrix[number][size + equation] * weighing(beam, equation, x);
                    }
                    line[number][x] = sum;
                }
            }
        }

        private void shorten(long scale) {
            long divisor = Math.abs(scale);
            for (int number = 0; number < size; number++) {
                for (int x = 0; x < places; x++) {
                    divisor = commonDivisor(divisor, Math.abs(line[number][x]));
                }
            }
            if (divisor == 0) {
                return;
            }
            common = Math.abs(scale) / divisor;
            long signed = scale < 0 ? -divisor : divisor;
            for (int number = 0; number < size; number++) {
                for (int x = 0; x < places; x++) {
                    line[number][x] /= signed;
                }
            }
        }

        private static long commonDivisor(long one, long other) {
            for (int step = 0; step < EUCLID_STEPS && other != 0; step++) {
                long rest = one % other;
                one = other;
                other = rest;
            }
            return one;
        }
    }

    /** What the weights on a beam do to it: all times the unit. */
    private static final class Forces {
        static final int REACTION = 0;
        static final int SHEAR = 1;
        static final int MOMENT = 2;

        private final int[] pressing = new int[PLACES];
        private final long[] reactions = new long[MOST_SUPPORTS];
        private final long[] shears = new long[PLACES];
        private final long[] moments = new long[PLACES];
        /** The weights on the beam together. */
        int total = 0;

        void underOne(Beam beam, Lines lines, int x) {
            liftAll();
            press(beam, 1, x);
            balance(beam, lines);
        }

        void underAll(Beam beam, Lines lines, int head) {
            liftAll();
            for (int number = 0; number < beam.loads.size; number++) {
                press(beam, beam.loads.first(number), beam.loads.second(number));
            }
            if (head != NONE) {
                pressAxles(beam, head);
            }
            balance(beam, lines);
        }

        long reactionOf(int support) {
            return support >= 0 && support < MOST_SUPPORTS ? reactions[support] : 0;
        }

        long shearIn(int field) {
            return field >= 0 && field < PLACES ? shears[field] : 0;
        }

        long momentAt(int section) {
            return section >= 0 && section < PLACES ? moments[section] : 0;
        }

        long ofKind(int kind, int number) {
            if (kind == REACTION) {
                return reactionOf(number);
            }
            return kind == SHEAR ? shearIn(number) : momentAt(number);
        }

        int liftedSet() {
            int set = 0;
            for (int number = 0; number < MOST_SUPPORTS; number++) {
                if (reactions[number] < 0) {
                    set |= 1 << number;
                }
            }
            return set;
        }

        int firstReason(Beam beam, Lines lines) {
            if (liftedSet() != 0) {
                return LIFTS;
            }
            if (bearsTooMuch(beam, lines)) {
                return BEARS_TOO_MUCH;
            }
            return bendsTooMuch(beam, lines) ? BENDS_TOO_MUCH : SAFE;
        }

        private boolean bearsTooMuch(Beam beam, Lines lines) {
            for (int number = 0; number < beam.supports.size; number++) {
                int bearing = beam.supports.second(number);
                if (bearing != NONE && reactionOf(number) > lines.common * bearing) {
                    return true;
                }
            }
            return false;
        }

        private boolean bendsTooMuch(Beam beam, Lines lines) {
            long allowed = lines.common * beam.most;
            for (int section = 0; section <= beam.length; section++) {
                if (Math.abs(momentAt(section)) > allowed) {
                    return true;
                }
            }
            return false;
        }

        private void liftAll() {
            for (int place = 0; place < PLACES; place++) {
                pressing[place] = 0;
            }
            for (int number = 0; number < MOST_SUPPORTS; number++) {
                reactions[number] = 0;
            }
            total = 0;
        }

        private void press(Beam beam, int weight, int place) {
            if (beam.hasPlace(place)) {
                pressing[place] += weight;
                total += weight;
            }
        }

        private void pressAxles(Beam beam, int head) {
            for (int number = 0; number < beam.axles.size; number++) {
                press(beam, beam.axles.first(number), head - beam.axles.second(number));
            }
        }

        private void balance(Beam beam, Lines lines) {
            for (int x = 0; x < PLACES; x++) {
                if (pressing[x] != 0) {
                    holdUp(lines, x);
                }
            }
            sweep(beam, lines.common);
        }

        private void holdUp(Lines lines, int x) {
            for (int number = 0; number < MOST_SUPPORTS; number++) {
                reactions[number] += pressing[x] * lines.at(number, x);
            }
        }

        /** From one place to the next the moment grows by the shear between them. */
        private void sweep(Beam beam, long unit) {
            long shear = 0;
            long moment = 0;
            int support = 0;
            for (int place = 0; place < PLACES && place <= beam.length; place++) {
                if (beam.supports.has(support) && beam.supports.first(support) == place) {
                    shear += reactionOf(support);
                    support++;
                }
                shear -= pressing[place] * unit;
                moments[place] = moment;
                shears[place] = shear;
                moment += shear;
            }
        }
    }

    /** The greatest moment without its sign, of all places and heads, and the leftmost place where it is. */
    private static final class Peak {
        long size = 0;
        int place = 0;

        void find(Beam beam, Lines lines, Forces forces) {
            size = 0;
            place = 0;
            int last = beam.lastHead();
            for (int head = 0; head <= last; head++) {
                forces.underAll(beam, lines, head);
                for (int section = 0; section <= beam.length; section++) {
                    look(Math.abs(forces.momentAt(section)), section);
                }
            }
        }

        private void look(long moment, int section) {
            if (moment > size || moment == size && section < place) {
                size = moment;
                place = section;
            }
        }
    }

    /** The beams before the latest changes. */
    private static final class History {
        private final Beam[] beams = new Beam[CHANGES_KEPT];
        int size = 0;

        History() {
            for (int number = 0; number < CHANGES_KEPT; number++) {
                beams[number] = new Beam();
            }
        }

        void remember(Beam beam) {
            if (size >= CHANGES_KEPT) {
                forgetOldest();
            }
            beams[size].copyFrom(beam);
            size++;
        }

        boolean takeBack(Beam beam) {
            if (size <= 0 || size > CHANGES_KEPT) {
                return false;
            }
            size--;
            beam.copyFrom(beams[size]);
            return true;
        }

        private void forgetOldest() {
            Beam oldest = beams[0];
            for (int number = 1; number < CHANGES_KEPT; number++) {
                beams[number - 1] = beams[number];
            }
            beams[CHANGES_KEPT - 1] = oldest;
            size = CHANGES_KEPT - 1;
        }
    }

    /** The text buffer, and the tokens of what stands in it. */
    private static final class Text {
        static final int END = 0;
        static final int WORD = 1;
        static final int NUMBER = 2;
        static final int SEMICOLON = 3;
        static final int OTHER = 4;
        private static final int SPACE = 5;
        // Greater than every number that is allowed, small enough to grow by one digit more.
        private static final int TOO_GREAT = 10000000;

        private final char[] bytes = new char[TEXT_ROOM];
        int length = 0;
        // No text has more tokens than bytes.
        private final int[] kinds = new int[TEXT_ROOM];
        private final int[] starts = new int[TEXT_ROOM];
        private final int[] ends = new int[TEXT_ROOM];
        private final int[] values = new int[TEXT_ROOM];
        int tokens = 0;

        void put(int one) {
            if (length < TEXT_ROOM) {
                bytes[length] = (char) one;
                length++;
            }
        }

        /** Behind the last token there is END. */
        int kindOf(int token) {
            return token >= 0 && token < tokens && token < TEXT_ROOM ? kinds[token] : END;
        }

        int startOf(int token) {
            return token >= 0 && token < tokens && token < TEXT_ROOM ? starts[token] : length;
        }

        int valueOf(int token) {
            return token >= 0 && token < tokens && token < TEXT_ROOM ? values[token] : 0;
        }

        boolean isWord(int token, String word) {
            if (!hasToken(token) || kinds[token] != WORD || ends[token] - starts[token] != word.length()) {
                return false;
            }
            for (int index = 0; index < word.length(); index++) {
                if (byteAt(starts[token] + index) != word.charAt(index)) {
                    return false;
                }
            }
            return true;
        }

        void split() {
            tokens = 0;
            int kindBefore = SPACE;
            for (int index = 0; index < length; index++) {
                int kind = kindOfByte(byteAt(index));
                boolean goesOn = kind == kindBefore && (kind == WORD || kind == NUMBER);
                if (!goesOn && kind != SPACE) {
                    startToken(kind, index);
                }
                if (kind != SPACE) {
                    lengthenToken(index);
                }
                kindBefore = kind;
            }
        }

        private boolean hasToken(int token) {
            return token >= 0 && token < tokens && token < TEXT_ROOM;
        }

        private int byteAt(int index) {
            return index >= 0 && index < length && index < TEXT_ROOM ? bytes[index] : 0;
        }

        private void startToken(int kind, int index) {
            if (tokens < TEXT_ROOM) {
                kinds[tokens] = kind;
                starts[tokens] = index;
                values[tokens] = 0;
                tokens++;
            }
        }

        private void lengthenToken(int index) {
            int last = tokens - 1;
            if (!hasToken(last)) {
                return;
            }
            ends[last] = index + 1;
            if (kinds[last] == NUMBER) {
                values[last] = Math.min(values[last] * 10 + byteAt(index) - '0', TOO_GREAT);
            }
        }

        private static int kindOfByte(int one) {
            if (one >= 'a' && one <= 'z') {
                return WORD;
            }
            if (one >= '0' && one <= '9') {
                return NUMBER;
            }
            if (one == ' ') {
                return SPACE;
            }
            return one == ';' ? SEMICOLON : OTHER;
        }
    }

    /** Reads a text as a beam, up to its first error. */
    private static final class Reader {
        final Text text = new Text();
        /** The beam of the text that was read last, if it had no error. */
        final Beam beam = new Beam();
        private int token = 0;
        int code = 0;
        int errorAt = NONE;

        /** Answers whether there is no error, but for a beam that does not stand. */
        boolean readText() {
            token = 0;
            code = 0;
            errorAt = NONE;
            beam.makeBare();
            text.split();
            if (!readHead()) {
                return false;
            }
            // No text has more statements than tokens.
            for (int count = 0; count < text.tokens && text.kindOf(token) != Text.END; count++) {
                if (!readStatement()) {
                    return false;
                }
            }
            return checkHinges();
        }

        private boolean readHead() {
            if (!takeWord("beam")) {
                return false;
            }
            int length = takeNumber(LEAST_LENGTH, GREATEST_LENGTH);
            if (length == NONE || !takeWord("most")) {
                return false;
            }
            int most = takeNumber(1, GREATEST_MOST);
            if (most == NONE) {
                return false;
            }
            beam.length = length;
            beam.most = most;
            return takeSemicolon();
        }

        private boolean readStatement() {
            if (text.isWord(token, "support")) {
                return readSupport();
            }
            if (text.isWord(token, "hinge")) {
                return readHinge();
            }
            if (text.isWord(token, "load")) {
                return readWeight(beam.loads, "at", beam.length);
            }
            if (text.isWord(token, "axle")) {
                return readWeight(beam.axles, "behind", GREATEST_BEHIND);
            }
            return fail(SYNTAX_ERROR, text.startOf(token));
        }

        private boolean readSupport() {
            if (!takeNameFor(beam.supports)) {
                return false;
            }
            int place = takeFreePlace(0, beam.length);
            if (place == NONE) {
                return false;
            }
            int bearing = NONE;
            if (text.isWord(token, "bears")) {
                token++;
                bearing = takeNumber(1, GREATEST_BEARING);
                if (bearing == NONE) {
                    return false;
                }
            }
            beam.supports.putInOrder(place, bearing);
            return takeSemicolon();
        }

        private boolean readHinge() {
            if (!takeNameFor(beam.hinges)) {
                return false;
            }
            int place = takeFreePlace(1, beam.length - 1);
            if (place == NONE) {
                return false;
            }
            beam.hinges.putInOrder(place, 0);
            return takeSemicolon();
        }

        private boolean readWeight(Row row, String between, int greatestSecond) {
            if (!takeNameFor(row)) {
                return false;
            }
            int weight = takeNumber(1, GREATEST_WEIGHT);
            if (weight == NONE || !takeWord(between)) {
                return false;
            }
            int second = takeNumber(0, greatestSecond);
            if (second == NONE) {
                return false;
            }
            row.putLast(weight, second);
            return takeSemicolon();
        }

        private boolean checkHinges() {
            int supports = beam.supports.size;
            if (supports < FEWEST_SUPPORTS || beam.hinges.size != supports - 2) {
                return fail(WRONG_HINGES, text.length);
            }
            return true;
        }

        private boolean fail(int errorCode, int position) {
            code = errorCode;
            errorAt = position;
            return false;
        }

        /** That there is too much of something is told before anything behind its name is read. */
        private boolean takeNameFor(Row row) {
            if (row.isFull()) {
                return fail(TOO_MANY, text.startOf(token));
            }
            token++;
            return true;
        }

        private boolean takeWord(String word) {
            if (!text.isWord(token, word)) {
                return fail(SYNTAX_ERROR, text.startOf(token));
            }
            token++;
            return true;
        }

        private boolean takeSemicolon() {
            if (text.kindOf(token) != Text.SEMICOLON) {
                return fail(SYNTAX_ERROR, text.startOf(token));
            }
            token++;
            return true;
        }

        /** Answers the number, NONE if there is none in this range. */
        private int takeNumber(int least, int greatest) {
            if (text.kindOf(token) != Text.NUMBER) {
                fail(SYNTAX_ERROR, text.startOf(token));
                return NONE;
            }
            int value = text.valueOf(token);
            if (value < least || value > greatest) {
                fail(VALUE_ERROR, text.startOf(token));
                return NONE;
            }
            token++;
            return value;
        }

        private int takeFreePlace(int least, int greatest) {
            int firstDigit = text.startOf(token);
            int place = takeNumber(least, greatest);
            if (place != NONE && beam.isTaken(place)) {
                fail(TWICE, firstDigit);
                return NONE;
            }
            return place;
        }
    }
}

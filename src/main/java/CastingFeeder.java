/**
 * A casting that freezes section by section. What each public method promises is told, under its
 * name, in the document ../shared/DOC.md.
 *
 * No call throws: an index that does not come from a loop over its own row goes through at() and
 * put(), which look at it first.
 */
public final class CastingFeeder {
    public static final int NONE = -1, BAD_INDEX = -2, BAD_VALUE = -3, BAD_STATE = -4, FULL = -5;

    private static final int MAX_SECTIONS = 12, MAX_JOINTS = 20, MAX_HISTORY = 5, MAX_TEXT = 120;
    private static final int MAX_SIZE = 5000, MAX_CHILL = 500;
    private static final int MAX_SHRINKAGE = 200, MAX_PIPING = 500;
    private static final int FIRST_SHRINKAGE = 50, FIRST_PIPING = 140;
    private static final int PER_MILLE = 1000;
    private static final int MAX_STANDARD = 15;
    private static final int PROPERTIES = 11, NUMBERS = 10;
    private static final int MAX_DIGITS = 4;
    /** Far above the some twenty turns that numbers up to 5500 need to find their common divisor. */
    private static final int MAX_TURNS = 1000;

    private final Casting casting = new Casting();
    private final Freezing freezing = new Freezing();
    private final History history = new History();
    private final Text text = new Text();
    /** A copy of the casting, and how it freezes, for what is only tried. */
    private final Casting trial = new Casting();
    private final Freezing tried = new Freezing();

    public CastingFeeder() {
    }

    // ---- sections and joints

    public int addSection(int volume, int area, boolean feeder) {
        if (!isSize(volume) || !isSize(area)) {
            return BAD_VALUE;
        }
        if (!casting.hasRoomForSection()) {
            return FULL;
        }
        history.keep(casting);
        int added = casting.append(volume, area, 0, feeder);
        freezing.follow(casting);
        return added;
    }

    public int resize(int section, int volume, int area) {
        if (!casting.has(section)) {
            return BAD_INDEX;
        }
        if (!isSize(volume) || !isSize(area)) {
            return BAD_VALUE;
        }
        history.keep(casting);
        int previous = at(casting.volume, section);
        put(casting.volume, section, volume);
        put(casting.area, section, area);
        freezing.follow(casting);
        return previous;
    }

    public int setChill(int section, int chill) {
        if (!casting.has(section)) {
            return BAD_INDEX;
        }
        if (!isWithin(chill, 0, MAX_CHILL)) {
            return BAD_VALUE;
        }
        history.keep(casting);
        int previous = at(casting.chill, section);
        put(casting.chill, section, chill);
        freezing.follow(casting);
        return previous;
    }

    public int removeSection(int section) {
        if (!casting.has(section)) {
            return BAD_INDEX;
        }
        history.keep(casting);
        casting.drop(section);
        freezing.follow(casting);
        return casting.sections;
    }

    public int join(int one, int other) {
        if (!casting.has(one) || !casting.has(other)) {
            return BAD_INDEX;
        }
        if (!casting.canLink(one, other)) {
            return BAD_STATE;
        }
        if (!casting.hasRoomForJoint()) {
            return FULL;
        }
        history.keep(casting);
        int added = casting.link(one, other);
        freezing.follow(casting);
        return added;
    }

    public int part(int joint) {
        if (!casting.hasJoint(joint)) {
            return BAD_INDEX;
        }
        history.keep(casting);
        casting.unlink(joint);
        freezing.follow(casting);
        return casting.joints;
    }

    public int setMetal(int shrinkage, int piping) {
        if (!isWithin(shrinkage, 0, MAX_SHRINKAGE) || !isWithin(piping, 0, MAX_PIPING)) {
            return BAD_VALUE;
        }
        history.keep(casting);
        int previous = casting.shrinkage;
        casting.shrinkage = shrinkage;
        casting.piping = piping;
        freezing.follow(casting);
        return previous;
    }

    public int count(int what) {
        switch (what) {
            case 0: return casting.sections;
            case 1: return casting.joints;
            case 2: return casting.shrinkage;
            case 3: return casting.piping;
            case 4: return casting.feeders();
            case 5: return freezing.fedBy(NONE);
            case 6: return sum(freezing.pores, casting.sections);
            case 7: return freezing.excessOfAll();
            case 8: return casting.yieldPerMille();
            case 9: return freezing.isSound() ? 1 : 0;
            default: return BAD_VALUE;
        }
    }

    public int section(int section, int what) {
        if (!casting.has(section)) {
            return BAD_INDEX;
        }
        switch (what) {
            case 0: return at(casting.volume, section);
            case 1: return at(casting.area, section);
            case 2: return at(casting.chill, section);
            case 3: return casting.isFeeder(section) ? 1 : 0;
            case 4: return at(freezing.step, section);
            case 5: return at(freezing.need, section);
            case 6: return at(freezing.pores, section);
            case 7: return at(freezing.excess, section);
            case 8: return at(freezing.source, section);
            case 9: return freezing.fedBy(section);
            case 10: return casting.neighbours(section);
            default: return BAD_VALUE;
        }
    }

    public int modulus(int section, boolean below) {
        if (!casting.has(section)) {
            return BAD_INDEX;
        }
        int upper = at(casting.volume, section);
        int lower = casting.cooledArea(section);
        int divisor = commonDivisor(upper, lower);
        int part = below ? lower : upper;
        return divisor > 0 ? part / divisor : part;
    }

    public int joint(int joint, int which) {
        if (!casting.hasJoint(joint)) {
            return BAD_INDEX;
        }
        if (!isWithin(which, 0, 1)) {
            return BAD_VALUE;
        }
        return at(which == 0 ? casting.first : casting.second, joint);
    }

    // ---- freezing

    public int atStep(int step) {
        if (step < 0) {
            return BAD_VALUE;
        }
        return step < casting.sections ? at(freezing.order, step) : NONE;
    }

    public int way(int section, int index) {
        if (!casting.has(section)) {
            return BAD_INDEX;
        }
        if (index < 0) {
            return BAD_VALUE;
        }
        int reached = section;
        for (int i = 0; i < index && i < MAX_SECTIONS && reached != NONE; i++) {
            reached = at(freezing.source, reached);
        }
        return reached;
    }

    public int end(int section) {
        return casting.has(section) ? freezing.hotSpotOf(section) : BAD_INDEX;
    }

    public int gathers(int section) {
        if (!casting.has(section)) {
            return BAD_INDEX;
        }
        int gathered = 0;
        for (int i = 0; i < casting.sections; i++) {
            if (freezing.hotSpotOf(i) == section) {
                gathered += casting.firstNeed(i);
            }
        }
        return gathered;
    }

    // ---- what would do; nothing is changed

    public int leastFeeder(int section) {
        if (!casting.has(section)) {
            return BAD_INDEX;
        }
        if (!hasRoomForFeeder()) {
            return FULL;
        }
        for (int size = 1; size <= MAX_STANDARD; size++) {
            if (isSoundWithFeeder(section, size)) {
                return size;
            }
        }
        return NONE;
    }

    public int bestFeeder() {
        if (!hasRoomForFeeder()) {
            return FULL;
        }
        for (int size = 1; size <= MAX_STANDARD; size++) {
            for (int i = 0; i < casting.sections; i++) {
                if (isSoundWithFeeder(i, size)) {
                    return 100 * size + i;
                }
            }
        }
        return NONE;
    }

    public int leastChill(int section) {
        if (!casting.has(section)) {
            return BAD_INDEX;
        }
        trial.copyFrom(casting);
        int lastStep = NONE;
        for (int chill = 0; chill <= MAX_CHILL; chill++) {
            put(trial.chill, section, chill);
            int step = trial.stepOf(section);
            // A chill changes the excesses by the order alone, and the others keep theirs.
            if (step != lastStep) {
                lastStep = step;
                tried.follow(trial);
                if (tried.isSound()) {
                    return chill;
                }
            }
        }
        return NONE;
    }

    public int excessWith(int section, int chill) {
        if (!casting.has(section)) {
            return BAD_INDEX;
        }
        if (!isWithin(chill, 0, MAX_CHILL)) {
            return BAD_VALUE;
        }
        trial.copyFrom(casting);
        put(trial.chill, section, chill);
        tried.follow(trial);
        return tried.excessOfAll();
    }

    private boolean hasRoomForFeeder() {
        return casting.hasRoomForSection() && casting.hasRoomForJoint();
    }

    private boolean isSoundWithFeeder(int section, int size) {
        trial.copyFrom(casting);
        int feeder = trial.append(size * size * size, 5 * size * size, 0, true);
        trial.link(section, feeder);
        tried.follow(trial);
        return tried.isSound();
    }

    public int undo() {
        if (history.isEmpty()) {
            return BAD_STATE;
        }
        history.restore(casting);
        freezing.follow(casting);
        return history.size;
    }

    // ---- text

    public int type(int code) {
        if (!isWithin(code, 0, 255)) {
            return BAD_VALUE;
        }
        return text.append(code) ? text.length : FULL;
    }

    public int clearText() {
        int previous = text.length;
        text.length = 0;
        return previous;
    }

    public int textFault() {
        trial.copyFrom(casting);
        return text.readInto(trial);
    }

    public int load() {
        trial.copyFrom(casting);
        if (text.readInto(trial) != NONE) {
            return BAD_STATE;
        }
        history.keep(casting);
        casting.copyFrom(trial);
        freezing.follow(casting);
        return text.items;
    }

    public long digest() {
        long hash = 17;
        for (int what = 0; what < NUMBERS; what++) {
            hash = 31 * hash + count(what);
        }
        for (int i = 0; i < casting.sections; i++) {
            for (int what = 0; what < PROPERTIES; what++) {
                hash = 31 * hash + section(i, what);
            }
        }
        for (int i = 0; i < casting.joints; i++) {
            hash = 31 * hash + joint(i, 0);
            hash = 31 * hash + joint(i, 1);
        }
        return hash;
    }

    // ---- small helps

    private static boolean isWithin(int value, int low, int high) {
        return value >= low && value <= high;
    }

    private static boolean isSize(int value) {
        return isWithin(value, 1, MAX_SIZE);
    }

    /** What stands in a row at an index; NONE if the row has no such place. */
    private static int at(int[] row, int index) {
        return index >= 0 && index < row.length ? row[index] : NONE;
    }

    private static void put(int[] row, int index, int value) {
        if (index >= 0 && index < row.length) {
            row[index] = value;
        }
    }

    private static int sum(int[] row, int length) {
        int total = 0;
        for (int i = 0; i < length && i < row.length; i++) {
            total += row[i];
        }
        return total;
    }

    private static int commonDivisor(int one, int other) {
        int divisor = one;
        int rest = other;
        for (int turn = 0; turn < MAX_TURNS && rest != 0; turn++) {
            int next = divisor % rest;
            divisor = rest;
            rest = next;
        }
        return divisor;
    }

    /** The whole state but the text. Its methods trust that the caller has looked for room. */
    private static final class Casting {
        int sections = 0;
        int joints = 0;
        int shrinkage = FIRST_SHRINKAGE;
        int piping = FIRST_PIPING;
        final int[] volume = new int[MAX_SECTIONS];
        final int[] area = new int[MAX_SECTIONS];
        final int[] chill = new int[MAX_SECTIONS];
        final boolean[] feeder = new boolean[MAX_SECTIONS];
        final int[] first = new int[MAX_JOINTS];
        final int[] second = new int[MAX_JOINTS];

        void copyFrom(Casting other) {
            sections = other.sections;
            joints = other.joints;
            shrinkage = other.shrinkage;
            piping = other.piping;
            for (int i = 0; i < MAX_SECTIONS; i++) {
                volume[i] = other.volume[i];
                area[i] = other.area[i];
                chill[i] = other.chill[i];
                feeder[i] = other.feeder[i];
            }
            for (int i = 0; i < MAX_JOINTS; i++) {
                first[i] = other.first[i];
                second[i] = other.second[i];
            }
        }

        boolean has(int section) {
            return section >= 0 && section < sections;
        }

        boolean hasJoint(int joint) {
            return joint >= 0 && joint < joints;
        }

        boolean hasRoomForSection() {
            return sections < MAX_SECTIONS;
        }

        boolean hasRoomForJoint() {
            return joints < MAX_JOINTS;
        }

        boolean isFeeder(int section) {
            return has(section) && feeder[section];
        }

        /** The area with the chill, by which the modulus is divided. */
        int cooledArea(int section) {
            return at(area, section) + at(chill, section);
        }

        int firstNeed(int section) {
            return at(volume, section) * shrinkage / PER_MILLE;
        }

        /** The pores that do a section no harm. */
        int bearablePores(int section) {
            return isFeeder(section) ? at(volume, section) * piping / PER_MILLE : 0;
        }

        /** How many sections freeze before one; the moduli are compared as exact fractions. */
        int stepOf(int section) {
            int ownVolume = at(volume, section);
            int ownArea = cooledArea(section);
            int step = 0;
            for (int i = 0; i < sections; i++) {
                int left = at(volume, i) * ownArea;
                int right = ownVolume * cooledArea(i);
                if (left < right || left == right && i < section) {
                    step++;
                }
            }
            return step;
        }

        int feeders() {
            int found = 0;
            for (int i = 0; i < sections; i++) {
                if (isFeeder(i)) {
                    found++;
                }
            }
            return found;
        }

        int yieldPerMille() {
            int all = 0;
            int kept = 0;
            for (int i = 0; i < sections; i++) {
                all += at(volume, i);
                if (!isFeeder(i)) {
                    kept += at(volume, i);
                }
            }
            return all > 0 ? PER_MILLE * kept / all : 0;
        }

        int neighbours(int section) {
            int found = 0;
            for (int i = 0; i < joints; i++) {
                if (touches(i, section)) {
                    found++;
                }
            }
            return found;
        }

        boolean touches(int joint, int section) {
            return at(first, joint) == section || at(second, joint) == section;
        }

        /** Whether two sections are not the same, and no neighbours yet. */
        boolean canLink(int one, int other) {
            if (one == other) {
                return false;
            }
            for (int i = 0; i < joints; i++) {
                if (touches(i, one) && touches(i, other)) {
                    return false;
                }
            }
            return true;
        }

        int append(int newVolume, int newArea, int newChill, boolean isFeeder) {
            int added = sections;
            if (added < 0 || added >= MAX_SECTIONS) {
                return FULL;
            }
            volume[added] = newVolume;
            area[added] = newArea;
            chill[added] = newChill;
            feeder[added] = isFeeder;
            sections = added + 1;
            return added;
        }

        int link(int one, int other) {
            int added = joints;
            if (added < 0 || added >= MAX_JOINTS) {
                return FULL;
            }
            first[added] = one;
            second[added] = other;
            joints = added + 1;
            return added;
        }

        void unlink(int joint) {
            for (int i = Math.max(joint, 0); i + 1 < joints; i++) {
                put(first, i, at(first, i + 1));
                put(second, i, at(second, i + 1));
            }
            joints--;
        }

        void drop(int section) {
            for (int i = joints - 1; i >= 0; i--) {
                if (touches(i, section)) {
                    unlink(i);
                }
            }
            for (int i = 0; i < joints; i++) {
                put(first, i, without(section, at(first, i)));
                put(second, i, without(section, at(second, i)));
            }
            for (int i = Math.max(section, 0); i + 1 < MAX_SECTIONS; i++) {
                volume[i] = volume[i + 1];
                area[i] = area[i + 1];
                chill[i] = chill[i + 1];
                feeder[i] = feeder[i + 1];
            }
            sections--;
        }

        /** The number that a section bears when another one is gone. */
        static int without(int gone, int section) {
            return section > gone ? section - 1 : section;
        }
    }

    /** How a casting freezes; every row has a place for each section, but order for each step. */
    private static final class Freezing {
        int sections = 0;
        final int[] step = new int[MAX_SECTIONS];
        final int[] order = new int[MAX_SECTIONS];
        /** The section by which a section is fed; NONE for a hot spot. */
        final int[] source = new int[MAX_SECTIONS];
        final int[] need = new int[MAX_SECTIONS];
        final int[] pores = new int[MAX_SECTIONS];
        final int[] excess = new int[MAX_SECTIONS];

        void follow(Casting casting) {
            sections = Math.min(casting.sections, MAX_SECTIONS);
            for (int i = 0; i < sections; i++) {
                step[i] = casting.stepOf(i);
                put(order, step[i], i);
            }
            findSources(casting);
            drawNeeds(casting);
            findPores(casting);
        }

        private void findSources(Casting casting) {
            for (int i = 0; i < sections; i++) {
                source[i] = NONE;
            }
            for (int i = 0; i < casting.joints; i++) {
                int one = at(casting.first, i);
                int other = at(casting.second, i);
                offer(one, other);
                offer(other, one);
            }
        }

        /** Lets a section be fed by a neighbour that freezes after it and after the best one so far. */
        private void offer(int section, int neighbour) {
            int offered = at(step, neighbour);
            if (offered > at(step, section) && offered > at(step, at(source, section))) {
                put(source, section, neighbour);
            }
        }

        private void drawNeeds(Casting casting) {
            for (int i = 0; i < sections; i++) {
                need[i] = casting.firstNeed(i);
            }
            for (int i = 0; i < sections; i++) {
                int frozen = order[i];
                int feeding = at(source, frozen);
                put(need, feeding, at(need, feeding) + at(need, frozen));
            }
        }

        private void findPores(Casting casting) {
            for (int i = 0; i < sections; i++) {
                pores[i] = source[i] == NONE ? need[i] : 0;
                excess[i] = Math.max(0, pores[i] - casting.bearablePores(i));
            }
        }

        int excessOfAll() {
            return sum(excess, sections);
        }

        boolean isSound() {
            return excessOfAll() == 0;
        }

        /** How many sections a section feeds itself; for NONE, how many are fed by none. */
        int fedBy(int section) {
            int found = 0;
            for (int i = 0; i < sections; i++) {
                if (source[i] == section) {
                    found++;
                }
            }
            return found;
        }

        int hotSpotOf(int section) {
            int reached = section;
            for (int i = 0; i < sections && at(source, reached) != NONE; i++) {
                reached = at(source, reached);
            }
            return reached;
        }
    }

    /** The latest states, the oldest one first. */
    private static final class History {
        final Casting[] states = new Casting[MAX_HISTORY];
        int size = 0;

        History() {
            for (int i = 0; i < states.length; i++) {
                states[i] = new Casting();
            }
        }

        boolean isEmpty() {
            return size <= 0;
        }

        void keep(Casting casting) {
            if (size >= states.length) {
                dropOldest();
            }
            Casting free = stateAt(size);
            if (free != null) {
                free.copyFrom(casting);
                size++;
            }
        }

        void restore(Casting casting) {
            Casting latest = stateAt(size - 1);
            if (latest != null) {
                casting.copyFrom(latest);
                size--;
            }
        }

        private Casting stateAt(int index) {
            return index >= 0 && index < states.length ? states[index] : null;
        }

        /** The oldest state's object goes to the end, to be used again. */
        private void dropOldest() {
            Casting oldest = states[0];
            for (int i = 0; i + 1 < states.length; i++) {
                states[i] = states[i + 1];
            }
            states[states.length - 1] = oldest;
            size--;
        }
    }

    /** The text, and the one who reads it; reading ends with the first fault. */
    private static final class Text {
        final int[] codes = new int[MAX_TEXT];
        int length = 0;
        int items = 0;
        private int place = 0;
        private int fault = NONE;

        boolean append(int code) {
            if (length < 0 || length >= MAX_TEXT) {
                return false;
            }
            codes[length] = code;
            length++;
            return true;
        }

        /** Adds what the text tells to a casting, up to the fault; returns the fault. */
        int readInto(Casting casting) {
            place = 0;
            fault = NONE;
            items = 0;
            boolean more = true;
            for (int i = 0; i <= MAX_TEXT && more; i++) {
                readItem(casting);
                more = fault == NONE && !isAtEnd();
                if (more) {
                    expect(';');
                    more = fault == NONE;
                }
            }
            return fault;
        }

        private void readItem(Casting casting) {
            int code = next();
            boolean isSection = code == 'c' || code == 'f';
            boolean isJoint = isDigit(code);
            boolean hasRoom = isSection && casting.hasRoomForSection()
                    || isJoint && casting.hasRoomForJoint();
            if (!hasRoom) {
                fault = place;
            } else if (isSection) {
                place++;
                readSection(casting, code == 'f');
            } else {
                readJoint(casting);
            }
            if (fault == NONE) {
                items++;
            }
        }

        private void readSection(Casting casting, boolean feeder) {
            int volume = readNumber(1, MAX_SIZE);
            expect('/');
            int area = readNumber(1, MAX_SIZE);
            int chill = 0;
            if (fault == NONE && next() == '-') {
                place++;
                chill = readNumber(0, MAX_CHILL);
            }
            if (fault == NONE) {
                casting.append(volume, area, chill, feeder);
            }
        }

        private void readJoint(Casting casting) {
            int one = readNumber(0, casting.sections - 1);
            expect('=');
            next();
            int otherPlace = place;
            int other = readNumber(0, casting.sections - 1);
            if (fault != NONE) {
                return;
            }
            if (casting.canLink(one, other)) {
                casting.link(one, other);
            } else {
                fault = otherPlace;
            }
        }

        /** Reads a number within bounds; does nothing after a fault. */
        private int readNumber(int low, int high) {
            if (fault != NONE) {
                return 0;
            }
            int value = 0;
            int digits = 0;
            int code = next();
            int start = place;
            for (int i = 0; i < MAX_TEXT && isDigit(code); i++) {
                // Digits beyond the fourth are counted alone, so that the value stays small.
                value = digits < MAX_DIGITS ? 10 * value + code - '0' : value;
                digits++;
                place++;
                code = codeAt(place);
            }
            if (digits == 0 || digits > MAX_DIGITS || !isWithin(value, low, high)) {
                fault = start;
            }
            return value;
        }

        /** Reads one sign; does nothing after a fault. */
        private void expect(char sign) {
            if (fault != NONE) {
                return;
            }
            if (next() == sign) {
                place++;
            } else {
                fault = place;
            }
        }

        /** Skips the blanks; returns the byte that follows, or NONE at the end. */
        private int next() {
            for (int i = 0; i < MAX_TEXT && codeAt(place) == ' '; i++) {
                place++;
            }
            return codeAt(place);
        }

        private boolean isAtEnd() {
            return next() == NONE;
        }

        private int codeAt(int index) {
            return index >= 0 && index < length && index < MAX_TEXT ? codes[index] : NONE;
        }

        private static boolean isDigit(int code) {
            return code >= '0' && code <= '9';
        }
    }
}

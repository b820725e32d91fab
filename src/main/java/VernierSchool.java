/** A school of reading verniers; ../shared/DOC.md tells what every call promises. */
public final class VernierSchool {
    public static final int UNKNOWN = -10000001;
    public static final int BAD_VALUE = -10000002;
    public static final int FULL = -10000003;
    public static final int NOT_POSSIBLE = -10000004;
    public static final int NONE = -10000005;

    private static final int MOST_INSTRUMENTS = 10;
    private static final int MOST_PUPILS = 12;
    private static final int MOST_PAPERS = 60;
    private static final int MOST_WAITING = 20;
    private static final int MOST_STATES = 4;
    private static final int LONGEST_TEXT = 60;
    // The shortest paper of a text has five characters and the ";" behind it.
    private static final int MOST_DRAFTS = LONGEST_TEXT / 6 + 1;

    // The columns of the three tables bear the numbers by which the public
    // methods ask for them, so that most of what is told is just a cell.
    private static final int DIVISIONS = 0;
    private static final int LEAST = 1;
    private static final int LINES = 2;
    private static final int RETROGRADE = 3;
    private static final int ZERO = 4;
    private static final int GAP = 5;
    private static final int TRAP = 6;
    private static final int ANNOUNCED = 7;
    private static final int GREATEST_SETTING = 8;
    private static final int VERNIER_DIVISION = 9;
    private static final int PAPERS_WITH = 10;
    private static final int INSTRUMENT_COLUMNS = 11;

    // 5 (the rank) and 8 (the lowest mark) are worked out when they are asked for.
    private static final int EYE = 0;
    private static final int HABITS = 1;
    private static final int KNOWN = 2;
    private static final int PAPERS_BY = 3;
    private static final int MARK_SUM = 4;
    private static final int RANK = 5;
    private static final int APPEALS_WON = 6;
    private static final int APPEALS_LOST = 7;
    private static final int LOWEST_MARK = 8;
    private static final int PUPIL_COLUMNS = 9;

    private static final int PUPIL = 0;
    private static final int INSTRUMENT = 1;
    private static final int SETTING = 2;
    private static final int ANSWER = 3;
    private static final int MARK = 4;
    private static final int APPEAL = 5;
    private static final int CAUSE = 6;
    private static final int HOPE = 7;
    private static final int PAPER_COLUMNS = 8;

    // A draft is a paper of the text: PUPIL, INSTRUMENT and SETTING.
    private static final int DRAFT_COLUMNS = 3;

    private static final int NOT_APPEALED = 0;
    private static final int WAITS = 1;
    private static final int GRANTED = 2;
    private static final int REFUSED = 3;

    private static final int FOR_TRAP = 1;
    private static final int FOR_EYE = 2;
    private static final int FOR_LINE = 3;

    private static final int HASTY = 1;
    private static final int EVEN = 2;
    private static final int EDGE = 4;
    private static final int UNCORRECTED = 8;

    private static final int REVERSED = 1;
    private static final int FIVES_FOR_TENS = 2;
    private static final int LINE_TOO_MANY = 3;
    private static final int ALL_TRAPS = 7;

    private static final int NO_FAULT = -1;
    private static final int FIRST_FAULT = -100;

    private final State now = new State();
    private final State snapshot = new State();
    private final History history = new History();
    private final PaperText text = new PaperText();
    private boolean hasSnapshot;

    public VernierSchool() {
        hasSnapshot = false;
    }

    // ---- instruments

    public int addInstrument(int divisions, int least, int lines, boolean retrograde) {
        if (outside(divisions, 2, 50) || outside(least, 1, 50) || outside(lines, 2, 200)) {
            return BAD_VALUE;
        }
        if (now.instruments.isFull()) {
            return FULL;
        }
        history.push(now);
        return now.newInstrument(divisions, least, lines, retrograde);
    }

    public int adjust(int instrument, int zero, int gap) {
        Table instruments = now.instruments;
        if (instruments.lacks(instrument)) {
            return UNKNOWN;
        }
        int length = now.mainDivision(instrument);
        if (outside(zero, -length, length) || outside(gap, 0, 20)) {
            return BAD_VALUE;
        }
        int before = instruments.cell(instrument, ZERO);
        if (before == zero && instruments.cell(instrument, GAP) == gap) {
            return NONE;
        }
        history.push(now);
        instruments.put(instrument, ZERO, zero);
        instruments.put(instrument, GAP, gap);
        return before;
    }

    public int setTrap(int instrument, int trap) {
        Table instruments = now.instruments;
        if (instruments.lacks(instrument)) {
            return UNKNOWN;
        }
        if (outside(trap, 0, 3)) {
            return BAD_VALUE;
        }
        int before = instruments.cell(instrument, TRAP);
        if (before == trap) {
            return NONE;
        }
        history.push(now);
        instruments.put(instrument, TRAP, trap);
        instruments.put(instrument, ANNOUNCED, 0);
        return before;
    }

    public int announce(int instrument) {
        Table instruments = now.instruments;
        if (instruments.lacks(instrument)) {
            return UNKNOWN;
        }
        int trap = instruments.cell(instrument, TRAP);
        if (trap == 0) {
            return NOT_POSSIBLE;
        }
        if (instruments.cell(instrument, ANNOUNCED) != 0) {
            return NONE;
        }
        history.push(now);
        instruments.put(instrument, ANNOUNCED, 1);
        return now.tellAll(trap);
    }

    // ---- pupils

    public int addPupil(int eye, int habits) {
        if (outside(eye, -50, 50) || outside(habits, 0, 15)) {
            return BAD_VALUE;
        }
        if (now.pupils.isFull()) {
            return FULL;
        }
        history.push(now);
        int pupil = now.pupils.newRow();
        now.pupils.put(pupil, EYE, eye);
        now.pupils.put(pupil, HABITS, habits);
        return pupil;
    }

    public int teach(int pupil, int trap) {
        if (now.pupils.lacks(pupil)) {
            return UNKNOWN;
        }
        if (outside(trap, 1, 3)) {
            return BAD_VALUE;
        }
        int known = now.pupils.cell(pupil, KNOWN);
        if (has(known, trapBit(trap))) {
            return NONE;
        }
        history.push(now);
        now.pupils.put(pupil, KNOWN, known | trapBit(trap));
        return now.pupils.cell(pupil, KNOWN);
    }

    public int train(int pupil, int eye, int habits) {
        if (now.pupils.lacks(pupil)) {
            return UNKNOWN;
        }
        if (outside(eye, -50, 50) || outside(habits, 0, 15)) {
            return BAD_VALUE;
        }
        int changed = now.pupils.cell(pupil, HABITS) ^ habits;
        if (changed == 0 && now.pupils.cell(pupil, EYE) == eye) {
            return NONE;
        }
        history.push(now);
        now.pupils.put(pupil, EYE, eye);
        now.pupils.put(pupil, HABITS, habits);
        return Integer.bitCount(changed);
    }

    // ---- papers and appeals

    public int write(int pupil, int instrument, int setting) {
        if (now.pupils.lacks(pupil) || now.instruments.lacks(instrument)) {
            return UNKNOWN;
        }
        if (now.isNoSetting(instrument, setting)) {
            return BAD_VALUE;
        }
        if (now.papers.isFull()) {
            return FULL;
        }
        history.push(now);
        return now.newPaper(pupil, instrument, setting);
    }

    public int appeal(int paper, int cause) {
        Table papers = now.papers;
        if (papers.lacks(paper)) {
            return UNKNOWN;
        }
        if (outside(cause, 1, 3)) {
            return BAD_VALUE;
        }
        if (papers.cell(paper, APPEAL) != NOT_APPEALED) {
            return NOT_POSSIBLE;
        }
        if (papers.rowsWith(APPEAL, WAITS) >= MOST_WAITING) {
            return FULL;
        }
        history.push(now);
        int hope = now.hopeOf(paper, cause);
        papers.put(paper, APPEAL, WAITS);
        papers.put(paper, CAUSE, cause);
        papers.put(paper, HOPE, hope);
        return hope;
    }

    public int decide() {
        int paper = now.waitingAt(0);
        if (paper == NONE) {
            return NONE;
        }
        history.push(now);
        boolean granted = now.isJustified(paper);
        now.settle(paper, granted);
        return 2 * paper + (granted ? 1 : 0);
    }

    // ---- texts

    public int type(char character) {
        if (text.isFull()) {
            return FULL;
        }
        text.append(character);
        return text.length();
    }

    public int clearText() {
        int before = text.length();
        text.clear();
        return before;
    }

    public int readPapers() {
        int fault = text.readDrafts();
        if (fault != NO_FAULT) {
            return FIRST_FAULT - fault;
        }
        Table drafts = text.drafts();
        int error = now.errorOf(drafts);
        if (error != 0) {
            return error;
        }
        history.push(now);
        int sum = 0;
        for (int draft = 0; draft < drafts.size(); draft++) {
            sum += now.newPaper(drafts.cell(draft, PUPIL), drafts.cell(draft, INSTRUMENT),
                    drafts.cell(draft, SETTING));
        }
        return sum;
    }

    // ---- history

    public int undo() {
        if (history.size() == 0) {
            return NONE;
        }
        history.pop(now);
        return history.size();
    }

    public int keep() {
        snapshot.copyFrom(now);
        hasSnapshot = true;
        return now.papers.size();
    }

    public int restore() {
        if (!hasSnapshot) {
            return NONE;
        }
        history.push(now);
        now.copyFrom(snapshot);
        return now.papers.size();
    }

    // ---- what is told

    public int instrument(int instrument, int what) {
        if (now.instruments.lacks(instrument)) {
            return UNKNOWN;
        }
        if (outside(what, 0, INSTRUMENT_COLUMNS - 1)) {
            return BAD_VALUE;
        }
        return now.instruments.cell(instrument, what);
    }

    public int pupil(int pupil, int what) {
        if (now.pupils.lacks(pupil)) {
            return UNKNOWN;
        }
        if (outside(what, 0, PUPIL_COLUMNS - 1)) {
            return BAD_VALUE;
        }
        if (what == RANK) {
            return now.rankOf(pupil);
        }
        if (what == LOWEST_MARK) {
            return now.lowestMark(pupil);
        }
        return now.pupils.cell(pupil, what);
    }

    public int paper(int paper, int what) {
        if (now.papers.lacks(paper)) {
            return UNKNOWN;
        }
        if (outside(what, 0, PAPER_COLUMNS - 1)) {
            return BAD_VALUE;
        }
        return now.papers.cell(paper, what);
    }

    public int coincidence(int instrument, int place, int what) {
        if (now.instruments.lacks(instrument)) {
            return UNKNOWN;
        }
        if (outside(place, -1000, 1000000) || outside(what, 0, 6)) {
            return BAD_VALUE;
        }
        int divisions = now.instruments.cell(instrument, DIVISIONS);
        int least = now.instruments.cell(instrument, LEAST);
        int length = now.mainDivision(instrument);
        int main = quotient(place, length);
        int rest = place - main * length;
        int fraction = nearestFraction(rest, least);
        switch (what) {
            case 0:
                return main;
            case 1:
                return rest;
            case 2:
                return now.instruments.cell(instrument, RETROGRADE) == 0
                        ? fraction : divisions - fraction;
            case 3:
                return Math.abs(rest - fraction * least);
            case 4:
                return fraction;
            case 5:
                return 2 * (rest - fraction * least) == least ? 2 : 1;
            default:
                return main * length + fraction * least;
        }
    }

    public int answer(int pupil, int instrument, int setting) {
        if (now.pupils.lacks(pupil) || now.instruments.lacks(instrument)) {
            return UNKNOWN;
        }
        if (now.isNoSetting(instrument, setting)) {
            return BAD_VALUE;
        }
        return now.answerNow(pupil, instrument, setting);
    }

    public int would(int pupil, int what) {
        if (now.pupils.lacks(pupil)) {
            return UNKNOWN;
        }
        if (outside(what, 0, 4)) {
            return BAD_VALUE;
        }
        boolean all = what == 4;
        int eye = all || what == 1 ? 0 : now.pupils.cell(pupil, EYE);
        int habits = all || what == 2 ? 0 : now.pupils.cell(pupil, HABITS);
        int known = all || what == 3 ? ALL_TRAPS : now.pupils.cell(pupil, KNOWN);
        return now.sumIfWritten(pupil, eye, habits, known);
    }

    public int ranked(int place) {
        if (place < 0) {
            return BAD_VALUE;
        }
        for (int pupil = 0; pupil < now.pupils.size(); pupil++) {
            if (now.rankOf(pupil) == place) {
                return pupil;
            }
        }
        return NONE;
    }

    public int waiting(int place) {
        if (place < 0) {
            return BAD_VALUE;
        }
        return now.waitingAt(place);
    }

    public int count(int what) {
        switch (what) {
            case 0:
                return now.instruments.size();
            case 1:
                return now.pupils.size();
            case 2:
                return now.papers.size();
            case 3:
                return now.papers.rowsWith(APPEAL, WAITS);
            case 4:
                return now.papers.rowsWith(APPEAL, GRANTED);
            case 5:
                return now.papers.rowsWith(APPEAL, REFUSED);
            case 6:
                return now.papers.sumOf(MARK);
            case 7:
                return history.size();
            case 8:
                return text.length();
            default:
                return BAD_VALUE;
        }
    }

    // ---- plain helpers

    private static boolean outside(int value, int least, int most) {
        return value < least || value > most;
    }

    private static boolean has(int set, int bit) {
        return (set & bit) != 0;
    }

    private static int trapBit(int trap) {
        return trap == 0 ? 0 : 1 << (trap - 1);
    }

    /** Rounded down, also below 0; no divisor of the school is below 1. */
    private static int quotient(int dividend, int divisor) {
        return divisor > 0 ? Math.floorDiv(dividend, divisor) : 0;
    }

    /**
     * The distance of a line is that of its fraction k from the rest, |r - k * u|, whichever
     * way the vernier runs. So the line that coincides tells the fraction nearest to r / u,
     * and of two the lower one.
     */
    private static int nearestFraction(int rest, int least) {
        int lower = quotient(rest, least);
        return 2 * (rest - lower * least) > least ? lower + 1 : lower;
    }

    /** Rows of numbers, filled from the front; what is outside of them reads as 0. */
    private static final class Table {
        private final int limit;
        private final int columns;
        private final int[] cells;
        private int rows;

        Table(int limit, int columns) {
            this.limit = limit;
            this.columns = columns;
            this.cells = new int[Math.max(0, limit * columns)];
            this.rows = 0;
        }

        int size() {
            return rows;
        }

        boolean isFull() {
            return rows >= limit;
        }

        boolean hasRoomFor(int more) {
            return more <= limit - rows;
        }

        boolean lacks(int row) {
            return row < 0 || row >= rows;
        }

        int cell(int row, int column) {
            if (lacks(row) || column < 0 || column >= columns) {
                return 0;
            }
            int index = row * columns + column;
            return index >= 0 && index < cells.length ? cells[index] : 0;
        }

        void put(int row, int column, int value) {
            if (lacks(row) || column < 0 || column >= columns) {
                return;
            }
            int index = row * columns + column;
            if (index >= 0 && index < cells.length) {
                cells[index] = value;
            }
        }

        void increase(int row, int column, int by) {
            put(row, column, cell(row, column) + by);
        }

        /** A row of zeros behind the others; the caller has seen that there is room. */
        int newRow() {
            if (isFull()) {
                return limit;
            }
            int row = rows;
            rows++;
            for (int column = 0; column < columns; column++) {
                put(row, column, 0);
            }
            return row;
        }

        void clear() {
            rows = 0;
        }

        int rowsWith(int column, int value) {
            int found = 0;
            for (int row = 0; row < rows; row++) {
                if (cell(row, column) == value) {
                    found++;
                }
            }
            return found;
        }

        int sumOf(int column) {
            int sum = 0;
            for (int row = 0; row < rows; row++) {
                sum += cell(row, column);
            }
            return sum;
        }

        void copyFrom(Table other) {
            if (other == null) {
                return;
            }
            System.arraycopy(other.cells, 0, cells, 0, Math.min(cells.length, other.cells.length));
            rows = Math.min(limit, other.rows);
        }
    }

    /** All that undo and the snapshot bring back. */
    private static final class State {
        final Table instruments = new Table(MOST_INSTRUMENTS, INSTRUMENT_COLUMNS);
        final Table pupils = new Table(MOST_PUPILS, PUPIL_COLUMNS);
        final Table papers = new Table(MOST_PAPERS, PAPER_COLUMNS);

        void copyFrom(State other) {
            if (other == null) {
                return;
            }
            instruments.copyFrom(other.instruments);
            pupils.copyFrom(other.pupils);
            papers.copyFrom(other.papers);
        }

        int newInstrument(int divisions, int least, int lines, boolean retrograde) {
            int instrument = instruments.newRow();
            instruments.put(instrument, DIVISIONS, divisions);
            instruments.put(instrument, LEAST, least);
            instruments.put(instrument, LINES, lines);
            instruments.put(instrument, RETROGRADE, retrograde ? 1 : 0);
            instruments.put(instrument, GREATEST_SETTING, lines * divisions * least);
            instruments.put(instrument, VERNIER_DIVISION,
                    (retrograde ? divisions + 1 : divisions - 1) * least);
            return instrument;
        }

        int mainDivision(int instrument) {
            return instruments.cell(instrument, DIVISIONS) * instruments.cell(instrument, LEAST);
        }

        boolean isNoSetting(int instrument, int setting) {
            return outside(setting, 0, instruments.cell(instrument, GREATEST_SETTING));
        }

        /** Lets every pupil know a trap, and tells how many did not. */
        int tellAll(int trap) {
            int told = 0;
            for (int pupil = 0; pupil < pupils.size(); pupil++) {
                int known = pupils.cell(pupil, KNOWN);
                if (!has(known, trapBit(trap))) {
                    pupils.put(pupil, KNOWN, known | trapBit(trap));
                    told++;
                }
            }
            return told;
        }

        /** What a pupil with this eye, these habits and known traps answers. */
        int answerOf(int instrument, int setting, int eye, int habits, int known) {
            int divisions = instruments.cell(instrument, DIVISIONS);
            int least = instruments.cell(instrument, LEAST);
            int zero = instruments.cell(instrument, ZERO);
            int trap = instruments.cell(instrument, TRAP);
            int length = mainDivision(instrument);
            int place = setting + zero + eye * instruments.cell(instrument, GAP) / 10;
            int main = quotient(place, length);
            int rest = place - main * length;
            int fraction = nearestFraction(rest, least);
            if (has(habits, HASTY) && fraction * least > rest) {
                fraction--;
            }
            if (has(habits, EVEN) && fraction % 2 != 0) {
                fraction--;
            }
            if (has(habits, EDGE) && fraction > divisions / 2) {
                main++;
            }
            if (!has(known, trapBit(trap))) {
                if (trap == REVERSED) {
                    fraction = divisions - fraction;
                } else if (trap == FIVES_FOR_TENS && main > 0) {
                    main += main / 5;
                } else if (trap == LINE_TOO_MANY) {
                    main++;
                }
            }
            int reading = main * length + fraction * least;
            return has(habits, UNCORRECTED) ? reading : reading - zero;
        }

        int answerNow(int pupil, int instrument, int setting) {
            return answerOf(instrument, setting, pupils.cell(pupil, EYE),
                    pupils.cell(pupil, HABITS), pupils.cell(pupil, KNOWN));
        }

        int markOf(int instrument, int setting, int reply) {
            int least = instruments.cell(instrument, LEAST);
            return Math.max(0, 10 - quotient(Math.abs(reply - setting), least));
        }

        /** The mark that a paper would have if such a pupil wrote it now. */
        int markIfWritten(int paper, int eye, int habits, int known) {
            int instrument = papers.cell(paper, INSTRUMENT);
            int setting = papers.cell(paper, SETTING);
            return markOf(instrument, setting, answerOf(instrument, setting, eye, habits, known));
        }

        int sumIfWritten(int pupil, int eye, int habits, int known) {
            int sum = 0;
            for (int paper = 0; paper < papers.size(); paper++) {
                if (papers.cell(paper, PUPIL) == pupil) {
                    sum += markIfWritten(paper, eye, habits, known);
                }
            }
            return sum;
        }

        /** Writes a paper and tells its mark. */
        int newPaper(int pupil, int instrument, int setting) {
            int reply = answerNow(pupil, instrument, setting);
            int mark = markOf(instrument, setting, reply);
            int paper = papers.newRow();
            papers.put(paper, PUPIL, pupil);
            papers.put(paper, INSTRUMENT, instrument);
            papers.put(paper, SETTING, setting);
            papers.put(paper, ANSWER, reply);
            papers.put(paper, MARK, mark);
            papers.put(paper, APPEAL, NOT_APPEALED);
            papers.put(paper, CAUSE, NONE);
            papers.put(paper, HOPE, NONE);
            pupils.increase(pupil, PAPERS_BY, 1);
            pupils.increase(pupil, MARK_SUM, mark);
            instruments.increase(instrument, PAPERS_WITH, 1);
            return mark;
        }

        /** Why the drafts cannot be written, or 0. */
        int errorOf(Table drafts) {
            if (drafts == null) {
                return 0;
            }
            for (int draft = 0; draft < drafts.size(); draft++) {
                if (pupils.lacks(drafts.cell(draft, PUPIL))
                        || instruments.lacks(drafts.cell(draft, INSTRUMENT))) {
                    return UNKNOWN;
                }
            }
            for (int draft = 0; draft < drafts.size(); draft++) {
                if (isNoSetting(drafts.cell(draft, INSTRUMENT), drafts.cell(draft, SETTING))) {
                    return BAD_VALUE;
                }
            }
            return papers.hasRoomFor(drafts.size()) ? 0 : FULL;
        }

        int hopeOf(int paper, int cause) {
            int pupil = papers.cell(paper, PUPIL);
            int eye = pupils.cell(pupil, EYE);
            int habits = pupils.cell(pupil, HABITS);
            int known = pupils.cell(pupil, KNOWN);
            if (cause == FOR_TRAP) {
                known |= trapBit(instruments.cell(papers.cell(paper, INSTRUMENT), TRAP));
            } else if (cause == FOR_EYE) {
                eye = 0;
            } else if (cause == FOR_LINE) {
                habits &= ~(HASTY | EVEN);
            }
            return markIfWritten(paper, eye, habits, known) - papers.cell(paper, MARK);
        }

        boolean waits(int paper) {
            return papers.cell(paper, APPEAL) == WAITS;
        }

        /** Whether the appeal of a paper is decided ahead of that of another one. */
        boolean isSooner(int paper, int other) {
            int hope = papers.cell(paper, HOPE);
            int otherHope = papers.cell(other, HOPE);
            if (hope != otherHope) {
                return hope > otherHope;
            }
            int mark = papers.cell(paper, MARK);
            int otherMark = papers.cell(other, MARK);
            return mark != otherMark ? mark < otherMark : paper < other;
        }

        int appealsAhead(int paper) {
            int ahead = 0;
            for (int other = 0; other < papers.size(); other++) {
                if (waits(other) && isSooner(other, paper)) {
                    ahead++;
                }
            }
            return ahead;
        }

        /** The paper whose appeal has this place in the order of decision, or NONE. */
        int waitingAt(int place) {
            for (int paper = 0; paper < papers.size(); paper++) {
                if (waits(paper) && appealsAhead(paper) == place) {
                    return paper;
                }
            }
            return NONE;
        }

        boolean isJustified(int paper) {
            if (papers.cell(paper, HOPE) <= 0) {
                return false;
            }
            int instrument = papers.cell(paper, INSTRUMENT);
            switch (papers.cell(paper, CAUSE)) {
                case FOR_TRAP:
                    return instruments.cell(instrument, TRAP) != 0
                            && instruments.cell(instrument, ANNOUNCED) == 0;
                case FOR_EYE:
                    return instruments.cell(instrument, GAP) >= 5;
                default:
                    return instruments.cell(instrument, LEAST) <= 10;
            }
        }

        void settle(int paper, boolean granted) {
            int change = papers.cell(paper, MARK) > 0 ? -1 : 0;
            if (granted) {
                change = papers.cell(paper, HOPE);
            }
            int pupil = papers.cell(paper, PUPIL);
            papers.put(paper, APPEAL, granted ? GRANTED : REFUSED);
            papers.increase(paper, MARK, change);
            pupils.increase(pupil, MARK_SUM, change);
            pupils.increase(pupil, granted ? APPEALS_WON : APPEALS_LOST, 1);
        }

        /** Whether a pupil stands ahead of another one in the ranks. */
        boolean isBetter(int pupil, int other) {
            int written = pupils.cell(pupil, PAPERS_BY);
            int otherWritten = pupils.cell(other, PAPERS_BY);
            if (written > 0 && otherWritten > 0) {
                // The means are compared without a division, so that nothing is rounded.
                int share = pupils.cell(pupil, MARK_SUM) * otherWritten;
                int otherShare = pupils.cell(other, MARK_SUM) * written;
                if (share != otherShare) {
                    return share > otherShare;
                }
            }
            return written != otherWritten ? written > otherWritten : pupil < other;
        }

        int rankOf(int pupil) {
            int ahead = 0;
            for (int other = 0; other < pupils.size(); other++) {
                if (isBetter(other, pupil)) {
                    ahead++;
                }
            }
            return ahead;
        }

        int lowestMark(int pupil) {
            int lowest = NONE;
            for (int paper = 0; paper < papers.size(); paper++) {
                if (papers.cell(paper, PUPIL) == pupil) {
                    int mark = papers.cell(paper, MARK);
                    lowest = lowest == NONE ? mark : Math.min(lowest, mark);
                }
            }
            return lowest;
        }
    }

    /** The states before the latest acts, in a ring of rows that are used again. */
    private static final class History {
        private final State[] states = new State[MOST_STATES];
        private int oldest;
        private int size;

        History() {
            for (int i = 0; i < states.length; i++) {
                states[i] = new State();
            }
            oldest = 0;
            size = 0;
        }

        int size() {
            return size;
        }

        void push(State state) {
            State place = stateAt(size);
            if (place == null) {
                return;
            }
            place.copyFrom(state);
            if (size < MOST_STATES) {
                size++;
            } else {
                oldest = (oldest + 1) % MOST_STATES;
            }
        }

        /** Copies the latest state into this one, and drops it. */
        void pop(State state) {
            if (size == 0 || state == null) {
                return;
            }
            size--;
            state.copyFrom(stateAt(size));
        }

        private State stateAt(int age) {
            int index = (oldest + age) % MOST_STATES;
            return index >= 0 && index < states.length ? states[index] : null;
        }
    }

    /** The text that is typed, and the papers that it tells. */
    private static final class PaperText {
        private final char[] characters = new char[LONGEST_TEXT];
        private final Table drafts = new Table(MOST_DRAFTS, DRAFT_COLUMNS);
        private int length;
        private int at;

        int length() {
            return length;
        }

        boolean isFull() {
            return length >= characters.length;
        }

        void append(char character) {
            if (length >= 0 && length < characters.length) {
                characters[length] = character;
                length++;
            }
        }

        void clear() {
            length = 0;
        }

        /** The papers of the text that was read last, if it had no fault. */
        Table drafts() {
            return drafts;
        }

        /** Reads the whole text into the drafts; tells its fault, or NO_FAULT. */
        int readDrafts() {
            drafts.clear();
            at = 0;
            for (int paper = 0; paper < MOST_DRAFTS; paper++) {
                if (!readDraft()) {
                    return at;
                }
                if (at >= length) {
                    return NO_FAULT;
                }
                if (!readSign(';')) {
                    return at;
                }
            }
            return at;
        }

        private boolean readDraft() {
            int draft = drafts.newRow();
            return readNumber(2, draft, PUPIL)
                    && readSign('/')
                    && readNumber(2, draft, INSTRUMENT)
                    && readSign('@')
                    && readNumber(6, draft, SETTING);
        }

        /** Reads digits as far as they are allowed: none follows a zero in front. */
        private boolean readNumber(int mostDigits, int draft, int column) {
            int digits = 0;
            int number = 0;
            while (digits < mostDigits && isDigitHere() && !(digits == 1 && number == 0)) {
                number = number * 10 + (characterHere() - '0');
                at++;
                digits++;
            }
            drafts.put(draft, column, number);
            return digits > 0;
        }

        private boolean readSign(char sign) {
            if (at >= length || characterHere() != sign) {
                return false;
            }
            at++;
            return true;
        }

        private boolean isDigitHere() {
            return at < length && characterHere() >= '0' && characterHere() <= '9';
        }

        private char characterHere() {
            return at >= 0 && at < length && at < characters.length ? characters[at] : (char) 0;
        }
    }
}

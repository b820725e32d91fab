import java.util.ArrayList;
import java.util.List;

/**
 * The school once more, as plainly as the document tells it and with nothing kept that can be
 * worked out: every line of a vernier is looked at, and every state is a whole copy.
 */
final class Model {
    private static final String TWO = "(0|[1-9][0-9]?)";
    private static final String SIX = "(0|[1-9][0-9]{0,5})";
    private static final String PAPER = TWO + "/" + TWO + "@" + SIX;
    private static final String PAPERS = PAPER + "(;" + PAPER + ")*";
    private static final String FRONT =
            "(" + PAPER + ";)*(" + TWO + "(/(" + TWO + "(@" + SIX + "?)?)?)?)?";

    private static final class Instrument {
        int n;
        int u;
        int lines;
        boolean retrograde;
        int zero;
        int gap;
        int trap;
        boolean announced;
    }

    private static final class Pupil {
        int eye;
        int habits;
        int knows;
    }

    private static final class Paper {
        int pupil;
        int instrument;
        int setting;
        int answer;
        int mark;
        int appeal;
        int cause = VernierSchool.NONE;
        int hope = VernierSchool.NONE;
    }

    private static final class State {
        final List<Instrument> instruments = new ArrayList<>();
        final List<Pupil> pupils = new ArrayList<>();
        final List<Paper> papers = new ArrayList<>();

        State copy() {
            State copy = new State();
            for (Instrument i : instruments) {
                Instrument c = new Instrument();
                c.n = i.n;
                c.u = i.u;
                c.lines = i.lines;
                c.retrograde = i.retrograde;
                c.zero = i.zero;
                c.gap = i.gap;
                c.trap = i.trap;
                c.announced = i.announced;
                copy.instruments.add(c);
            }
            for (Pupil p : pupils) {
                copy.pupils.add(pupilLike(p));
            }
            for (Paper p : papers) {
                Paper c = new Paper();
                c.pupil = p.pupil;
                c.instrument = p.instrument;
                c.setting = p.setting;
                c.answer = p.answer;
                c.mark = p.mark;
                c.appeal = p.appeal;
                c.cause = p.cause;
                c.hope = p.hope;
                copy.papers.add(c);
            }
            return copy;
        }
    }

    private State now = new State();
    private State kept = null;
    private final List<State> history = new ArrayList<>();
    private String text = "";

    private static Pupil pupilLike(Pupil p) {
        Pupil c = new Pupil();
        c.eye = p.eye;
        c.habits = p.habits;
        c.knows = p.knows;
        return c;
    }

    private void record() {
        history.add(now.copy());
        if (history.size() > 4) {
            history.remove(0);
        }
    }

    private Instrument instrumentAt(int i) {
        return i >= 0 && i < now.instruments.size() ? now.instruments.get(i) : null;
    }

    private Pupil pupilAt(int i) {
        return i >= 0 && i < now.pupils.size() ? now.pupils.get(i) : null;
    }

    private Paper paperAt(int i) {
        return i >= 0 && i < now.papers.size() ? now.papers.get(i) : null;
    }

    int addInstrument(int divisions, int least, int lines, boolean retrograde) {
        if (divisions < 2 || divisions > 50 || least < 1 || least > 50 || lines < 2 || lines > 200) {
            return VernierSchool.BAD_VALUE;
        }
        if (now.instruments.size() == 10) {
            return VernierSchool.FULL;
        }
        record();
        Instrument i = new Instrument();
        i.n = divisions;
        i.u = least;
        i.lines = lines;
        i.retrograde = retrograde;
        now.instruments.add(i);
        return now.instruments.size() - 1;
    }

    int adjust(int instrument, int zero, int gap) {
        Instrument i = instrumentAt(instrument);
        if (i == null) {
            return VernierSchool.UNKNOWN;
        }
        if (zero < -i.n * i.u || zero > i.n * i.u || gap < 0 || gap > 20) {
            return VernierSchool.BAD_VALUE;
        }
        if (i.zero == zero && i.gap == gap) {
            return VernierSchool.NONE;
        }
        record();
        int before = i.zero;
        i.zero = zero;
        i.gap = gap;
        return before;
    }

    int setTrap(int instrument, int trap) {
        Instrument i = instrumentAt(instrument);
        if (i == null) {
            return VernierSchool.UNKNOWN;
        }
        if (trap < 0 || trap > 3) {
            return VernierSchool.BAD_VALUE;
        }
        if (i.trap == trap) {
            return VernierSchool.NONE;
        }
        record();
        int before = i.trap;
        i.trap = trap;
        i.announced = false;
        return before;
    }

    int announce(int instrument) {
        Instrument i = instrumentAt(instrument);
        if (i == null) {
            return VernierSchool.UNKNOWN;
        }
        if (i.trap == 0) {
            return VernierSchool.NOT_POSSIBLE;
        }
        if (i.announced) {
            return VernierSchool.NONE;
        }
        record();
        i.announced = true;
        int told = 0;
        for (Pupil p : now.pupils) {
            told += knows(p, i.trap) ? 0 : 1;
            p.knows |= 1 << (i.trap - 1);
        }
        return told;
    }

    private static boolean knows(Pupil p, int trap) {
        return (p.knows >> (trap - 1) & 1) == 1;
    }

    int addPupil(int eye, int habits) {
        if (eye < -50 || eye > 50 || habits < 0 || habits > 15) {
            return VernierSchool.BAD_VALUE;
        }
        if (now.pupils.size() == 12) {
            return VernierSchool.FULL;
        }
        record();
        Pupil p = new Pupil();
        p.eye = eye;
        p.habits = habits;
        now.pupils.add(p);
        return now.pupils.size() - 1;
    }

    int teach(int pupil, int trap) {
        Pupil p = pupilAt(pupil);
        if (p == null) {
            return VernierSchool.UNKNOWN;
        }
        if (trap < 1 || trap > 3) {
            return VernierSchool.BAD_VALUE;
        }
        if (knows(p, trap)) {
            return VernierSchool.NONE;
        }
        record();
        p.knows |= 1 << (trap - 1);
        return p.knows;
    }

    int train(int pupil, int eye, int habits) {
        Pupil p = pupilAt(pupil);
        if (p == null) {
            return VernierSchool.UNKNOWN;
        }
        if (eye < -50 || eye > 50 || habits < 0 || habits > 15) {
            return VernierSchool.BAD_VALUE;
        }
        if (p.eye == eye && p.habits == habits) {
            return VernierSchool.NONE;
        }
        record();
        int other = 0;
        for (int habit = 0; habit < 4; habit++) {
            other += (p.habits >> habit & 1) != (habits >> habit & 1) ? 1 : 0;
        }
        p.eye = eye;
        p.habits = habits;
        return other;
    }

    /** m, r, the line that coincides, its distance, its fraction, how many there are. */
    private static int[] look(Instrument i, int place) {
        int length = i.n * i.u;
        int m = (int) Math.floor((double) place / length);
        int r = place - m * length;
        int least = Integer.MAX_VALUE;
        for (int j = 0; j <= i.n; j++) {
            least = Math.min(least, distance(i, r, j));
        }
        int line = -1;
        int fraction = Integer.MAX_VALUE;
        int number = 0;
        for (int j = 0; j <= i.n; j++) {
            if (distance(i, r, j) == least) {
                number++;
                int tells = i.retrograde ? i.n - j : j;
                if (tells < fraction) {
                    fraction = tells;
                    line = j;
                }
            }
        }
        return new int[] {m, r, line, least, fraction, number};
    }

    private static int distance(Instrument i, int r, int j) {
        return Math.abs(i.retrograde ? i.n * i.u - r - j * i.u : r - j * i.u);
    }

    private static int read(Pupil p, Instrument i, int setting) {
        int parallax = p.eye * i.gap / 10;
        int[] seen = look(i, setting + i.zero + parallax);
        int m = seen[0];
        int r = seen[1];
        int k = seen[4];
        if ((p.habits & 1) != 0 && k * i.u > r) {
            k = k - 1;
        }
        if ((p.habits & 2) != 0 && k % 2 == 1) {
            k = k - 1;
        }
        if ((p.habits & 4) != 0 && k > i.n / 2) {
            m = m + 1;
        }
        if (i.trap == 1 && !knows(p, 1)) {
            k = i.n - k;
        }
        if (i.trap == 2 && !knows(p, 2) && m > 0) {
            m = m + m / 5;
        }
        if (i.trap == 3 && !knows(p, 3)) {
            m = m + 1;
        }
        return m * i.n * i.u + k * i.u - ((p.habits & 8) != 0 ? 0 : i.zero);
    }

    private static int mark(Instrument i, int setting, int answer) {
        int mark = 10 - Math.abs(answer - setting) / i.u;
        return mark < 0 ? 0 : mark;
    }

    private static boolean isSetting(Instrument i, int setting) {
        return setting >= 0 && setting <= i.lines * i.n * i.u;
    }

    private int put(int pupil, int instrument, int setting) {
        Instrument i = instrumentAt(instrument);
        Paper w = new Paper();
        w.pupil = pupil;
        w.instrument = instrument;
        w.setting = setting;
        w.answer = read(pupilAt(pupil), i, setting);
        w.mark = mark(i, setting, w.answer);
        now.papers.add(w);
        return w.mark;
    }

    int write(int pupil, int instrument, int setting) {
        if (pupilAt(pupil) == null || instrumentAt(instrument) == null) {
            return VernierSchool.UNKNOWN;
        }
        if (!isSetting(instrumentAt(instrument), setting)) {
            return VernierSchool.BAD_VALUE;
        }
        if (now.papers.size() == 60) {
            return VernierSchool.FULL;
        }
        record();
        return put(pupil, instrument, setting);
    }

    int appeal(int paper, int cause) {
        Paper w = paperAt(paper);
        if (w == null) {
            return VernierSchool.UNKNOWN;
        }
        if (cause < 1 || cause > 3) {
            return VernierSchool.BAD_VALUE;
        }
        if (w.appeal != 0) {
            return VernierSchool.NOT_POSSIBLE;
        }
        if (inOrder().size() == 20) {
            return VernierSchool.FULL;
        }
        record();
        Instrument i = instrumentAt(w.instrument);
        Pupil other = pupilLike(pupilAt(w.pupil));
        if (cause == 1 && i.trap > 0) {
            other.knows |= 1 << (i.trap - 1);
        }
        if (cause == 2) {
            other.eye = 0;
        }
        if (cause == 3) {
            other.habits = other.habits / 4 * 4;
        }
        w.appeal = 1;
        w.cause = cause;
        w.hope = mark(i, w.setting, read(other, i, w.setting)) - w.mark;
        return w.hope;
    }

    /** The papers whose appeals wait, in the order of decision. */
    private List<Integer> inOrder() {
        List<Integer> order = new ArrayList<>();
        for (int i = 0; i < now.papers.size(); i++) {
            if (now.papers.get(i).appeal == 1) {
                order.add(i);
            }
        }
        order.sort((a, b) -> {
            Paper first = now.papers.get(a);
            Paper second = now.papers.get(b);
            return first.hope != second.hope ? second.hope - first.hope
                    : first.mark != second.mark ? first.mark - second.mark : a - b;
        });
        return order;
    }

    int decide() {
        List<Integer> order = inOrder();
        if (order.isEmpty()) {
            return VernierSchool.NONE;
        }
        record();
        int paper = order.get(0);
        Paper w = now.papers.get(paper);
        Instrument i = instrumentAt(w.instrument);
        boolean granted = w.hope > 0
                && (w.cause == 1 && i.trap > 0 && !i.announced
                || w.cause == 2 && i.gap >= 5
                || w.cause == 3 && i.u <= 10);
        if (granted) {
            w.mark += w.hope;
            w.appeal = 2;
            return 2 * paper + 1;
        }
        w.mark = Math.max(0, w.mark - 1);
        w.appeal = 3;
        return 2 * paper;
    }

    int type(char character) {
        if (text.length() == 60) {
            return VernierSchool.FULL;
        }
        text += character;
        return text.length();
    }

    int clearText() {
        int before = text.length();
        text = "";
        return before;
    }

    int readPapers() {
        for (int i = 0; i < text.length(); i++) {
            if (!text.substring(0, i + 1).matches(FRONT)) {
                return -100 - i;
            }
        }
        if (!text.matches(PAPERS)) {
            return -100 - text.length();
        }
        List<int[]> drafts = new ArrayList<>();
        for (String part : text.split(";")) {
            String[] numbers = part.split("[/@]");
            drafts.add(new int[] {Integer.parseInt(numbers[0]), Integer.parseInt(numbers[1]),
                Integer.parseInt(numbers[2])});
        }
        for (int[] draft : drafts) {
            if (pupilAt(draft[0]) == null || instrumentAt(draft[1]) == null) {
                return VernierSchool.UNKNOWN;
            }
        }
        for (int[] draft : drafts) {
            if (!isSetting(instrumentAt(draft[1]), draft[2])) {
                return VernierSchool.BAD_VALUE;
            }
        }
        if (now.papers.size() + drafts.size() > 60) {
            return VernierSchool.FULL;
        }
        record();
        int sum = 0;
        for (int[] draft : drafts) {
            sum += put(draft[0], draft[1], draft[2]);
        }
        return sum;
    }

    int undo() {
        if (history.isEmpty()) {
            return VernierSchool.NONE;
        }
        now = history.remove(history.size() - 1);
        return history.size();
    }

    int keep() {
        kept = now.copy();
        return now.papers.size();
    }

    int restore() {
        if (kept == null) {
            return VernierSchool.NONE;
        }
        record();
        now = kept.copy();
        return now.papers.size();
    }

    int instrument(int instrument, int what) {
        Instrument i = instrumentAt(instrument);
        if (i == null) {
            return VernierSchool.UNKNOWN;
        }
        int written = 0;
        for (Paper w : now.papers) {
            written += w.instrument == instrument ? 1 : 0;
        }
        return pick(what, i.n, i.u, i.lines, i.retrograde ? 1 : 0, i.zero, i.gap, i.trap,
                i.announced ? 1 : 0, i.lines * i.n * i.u, (i.retrograde ? i.n + 1 : i.n - 1) * i.u,
                written);
    }

    private static int pick(int what, int... told) {
        return what >= 0 && what < told.length ? told[what] : VernierSchool.BAD_VALUE;
    }

    int pupil(int pupil, int what) {
        Pupil p = pupilAt(pupil);
        if (p == null) {
            return VernierSchool.UNKNOWN;
        }
        int papers = 0;
        int sum = 0;
        int granted = 0;
        int refused = 0;
        int lowest = Integer.MAX_VALUE;
        for (Paper w : now.papers) {
            if (w.pupil == pupil) {
                papers++;
                sum += w.mark;
                granted += w.appeal == 2 ? 1 : 0;
                refused += w.appeal == 3 ? 1 : 0;
                lowest = Math.min(lowest, w.mark);
            }
        }
        return pick(what, p.eye, p.habits, p.knows, papers, sum, ranks().indexOf(pupil), granted,
                refused, papers == 0 ? VernierSchool.NONE : lowest);
    }

    private List<Integer> ranks() {
        int[] papers = new int[12];
        int[] sums = new int[12];
        for (Paper w : now.papers) {
            papers[w.pupil]++;
            sums[w.pupil] += w.mark;
        }
        List<Integer> ranks = new ArrayList<>();
        for (int i = 0; i < now.pupils.size(); i++) {
            ranks.add(i);
        }
        ranks.sort((a, b) -> {
            if (papers[a] == 0 || papers[b] == 0) {
                return papers[a] == papers[b] ? a - b : papers[b] - papers[a];
            }
            int means = sums[b] * papers[a] - sums[a] * papers[b];
            return means != 0 ? means : papers[a] != papers[b] ? papers[b] - papers[a] : a - b;
        });
        return ranks;
    }

    int paper(int paper, int what) {
        Paper w = paperAt(paper);
        if (w == null) {
            return VernierSchool.UNKNOWN;
        }
        return pick(what, w.pupil, w.instrument, w.setting, w.answer, w.mark, w.appeal, w.cause,
                w.hope);
    }

    int coincidence(int instrument, int place, int what) {
        Instrument i = instrumentAt(instrument);
        if (i == null) {
            return VernierSchool.UNKNOWN;
        }
        if (place < -1000 || place > 1000000) {
            return VernierSchool.BAD_VALUE;
        }
        int[] seen = look(i, place);
        return pick(what, seen[0], seen[1], seen[2], seen[3], seen[4], seen[5],
                seen[0] * i.n * i.u + seen[4] * i.u);
    }

    int answer(int pupil, int instrument, int setting) {
        if (pupilAt(pupil) == null || instrumentAt(instrument) == null) {
            return VernierSchool.UNKNOWN;
        }
        if (!isSetting(instrumentAt(instrument), setting)) {
            return VernierSchool.BAD_VALUE;
        }
        return read(pupilAt(pupil), instrumentAt(instrument), setting);
    }

    int would(int pupil, int what) {
        if (pupilAt(pupil) == null) {
            return VernierSchool.UNKNOWN;
        }
        if (what < 0 || what > 4) {
            return VernierSchool.BAD_VALUE;
        }
        Pupil other = pupilLike(pupilAt(pupil));
        if (what == 1 || what == 4) {
            other.eye = 0;
        }
        if (what == 2 || what == 4) {
            other.habits = 0;
        }
        if (what == 3 || what == 4) {
            other.knows = 7;
        }
        int sum = 0;
        for (Paper w : now.papers) {
            Instrument i = instrumentAt(w.instrument);
            sum += w.pupil == pupil ? mark(i, w.setting, read(other, i, w.setting)) : 0;
        }
        return sum;
    }

    int ranked(int place) {
        return place < 0 ? VernierSchool.BAD_VALUE
                : place < now.pupils.size() ? ranks().get(place) : VernierSchool.NONE;
    }

    int waiting(int place) {
        List<Integer> order = inOrder();
        return place < 0 ? VernierSchool.BAD_VALUE
                : place < order.size() ? order.get(place) : VernierSchool.NONE;
    }

    int count(int what) {
        int[] appeals = new int[4];
        int sum = 0;
        for (Paper w : now.papers) {
            appeals[w.appeal]++;
            sum += w.mark;
        }
        return pick(what, now.instruments.size(), now.pupils.size(), now.papers.size(), appeals[1],
                appeals[2], appeals[3], sum, history.size(), text.length());
    }
}
